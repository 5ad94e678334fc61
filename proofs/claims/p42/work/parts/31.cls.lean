def f_X8_request (M : xM) (a1 a2 a3 a4 a5 a6 : Int32) : Option (Int32 × xM) :=
  xb (f_X8_errorOfExcerpt M a1 a2 a3 a4 a5) fun v3 =>
  xl v3 fun v4 =>
  if v4 = 0 then (
    xb (f_X8_isWithin a6 1 100) fun v5 =>
    if v5 = 0 then (
      some ((-2), M))
    else (
      xb (f_X6_isFull 14 15 160 M) fun v6 =>
      if v6 = 0 then (
        xb (f_X1_keep M) fun M7 =>
        xb2 (f_X6_addRow 14 15 160 M7) fun v8 M9 =>
        xl v8 fun v10 =>
        xb (f_X6_set 14 15 160 M9 v10 0 0) fun M11 =>
        xb (f_X6_set 14 15 160 M11 v10 1 a1) fun M12 =>
        xb (f_X6_set 14 15 160 M12 v10 2 a2) fun M13 =>
        xb (f_X6_set 14 15 160 M13 v10 3 a3) fun M14 =>
        xb (f_X6_set 14 15 160 M14 v10 4 a4) fun M15 =>
        xb (f_X6_set 14 15 160 M15 v10 5 a5) fun M16 =>
        xb (f_X6_set 14 15 160 M16 v10 6 a6) fun M17 =>
        xb (f_X6_set 14 15 160 M17 v10 7 (xmn ((M17 1 8) + 30) 9999)) fun M18 =>
        xb (f_X6_set 14 15 160 M18 v10 8 (-6)) fun M19 =>
        some (v10, M19))
      else (
        some ((-4), M))))
  else (
    some (v4, M))
set_option maxHeartbeats 1000000 in
theorem x_X8_request {ξ : xX} {M : xM} {a1 a2 a3 a4 a5 a6 : Int32} {z : (Int32 × xM)} (h : f_X8_request M a1 a2 a3 a4 a5 a6 = some z) : X ξ mX8_request 0 [.ref 0, .int a1, .int a2, .int a3, .int a4, .int a5, .int a6] [] SH M 0 0 (xr (some (.int z.1)) SH z.2) := by
  rw [f_X8_request] at h
  refine X_aload_n (x := 0) dX8_request_0 rfl ?_
  refine X_iload_n (x := a1) dX8_request_1 rfl ?_
  refine X_iload_n (x := a2) dX8_request_2 rfl ?_
  refine X_iload_n (x := a3) dX8_request_3 rfl ?_
  refine X_iload (x := a4) dX8_request_4 rfl ?_
  refine X_iload (x := a5) dX8_request_6 rfl ?_
  refine X_vP (μ' := mX8_errorOfExcerpt) [.int a1, .int a2, .int a3, .int a4, .int a5] [] kL_RX8_144 kM_X8_errorOfExcerpt rv_0 rfl rfl rfl dX8_request_8 h (fun _ hv => x_X8_errorOfExcerpt hv) (fun v3 h => ?_)
  refine X_istoreL (fun v4 => [.ref 0, .int a1, .int a2, .int a3, .int a4, .int a5, .int a6, .int v4]) dX8_request_11 (Nat.le_of_ble_eq_true rfl) (Nat.le_of_ble_eq_true rfl) (xcat1_of rfl) h (fun _ => rfl) (fun v4 h => ?_)
  refine X_iload (x := v4) dX8_request_13 rfl ?_
  refine X_if_eq 21 dX8_request_15 (by decide) h (fun h => ?_) (fun h => ?_)
  · refine X_iload (x := a6) dX8_request_21 rfl ?_
    refine X_iconst 1 dX8_request_23 rfl ?_
    refine X_bipush 100 dX8_request_24 rfl ?_
    refine X_sP (μ' := mX8_isWithin) [.int a6, .int 1, .int 100] [] kL_RX8_61 kM_X8_isWithin rfl rfl rfl dX8_request_26 h (fun _ hv => x_X8_isWithin hv) (fun v5 h => ?_)
    refine X_if_ne 35 dX8_request_29 (by decide) h (fun h => ?_) (fun h => ?_)
    · refine X_aload_n (x := 0) dX8_request_35 rfl ?_
      refine X_get (v := .ref 1) kF_RX8_10 sh_0 rfl rfl dX8_request_36 ?_
      refine X_get (v := .ref 14) kF_RX8_148 sh_1 rfl rfl dX8_request_39 ?_
      refine X_vP (μ' := mX6_isFull) [] [] kL_RX8_69 kM_X6_isFull rv_14 rfl rfl rfl dX8_request_42 h (fun _ hv => x_X6_isFull xT_14 hv) (fun v6 h => ?_)
      refine X_if_eq 51 dX8_request_45 (by decide) h (fun h => ?_) (fun h => ?_)
      · refine X_aload_n (x := 0) dX8_request_51 rfl ?_
        refine X_get (v := .ref 18) kF_RX8_19 sh_0 rfl rfl dX8_request_52 ?_
        refine X_aload_n (x := 0) dX8_request_55 rfl ?_
        refine X_get (v := .ref 1) kF_RX8_10 sh_0 rfl rfl dX8_request_56 ?_
        refine X_vV (μ' := mX1_keep) [.ref 1] [] kL_RX8_75 kM_X1_keep rv_18 rfl rfl rfl dX8_request_59 h (fun _ hv => x_X1_keep hv) (fun M7 h => ?_)
        refine X_aload_n (x := 0) dX8_request_62 rfl ?_
        refine X_get (v := .ref 1) kF_RX8_10 sh_0 rfl rfl dX8_request_63 ?_
        refine X_get (v := .ref 14) kF_RX8_148 sh_1 rfl rfl dX8_request_66 ?_
        refine X_vI (μ' := mX6_addRow) [] [] kL_RX8_79 kM_X6_addRow rv_14 rfl rfl rfl dX8_request_69 h (fun _ hv => x_X6_addRow xT_14 hv) (fun v8 M9 h => ?_)
        refine X_istoreL (fun v10 => [.ref 0, .int a1, .int a2, .int a3, .int a4, .int a5, .int a6, .int v4, .int v10]) dX8_request_72 (Nat.le_of_ble_eq_true rfl) (Nat.le_of_ble_eq_true rfl) (xcat1_of rfl) h (fun _ => rfl) (fun v10 h => ?_)
        refine X_aload_n (x := 0) dX8_request_74 rfl ?_
        refine X_get (v := .ref 1) kF_RX8_10 sh_0 rfl rfl dX8_request_75 ?_
        refine X_get (v := .ref 14) kF_RX8_148 sh_1 rfl rfl dX8_request_78 ?_
        refine X_iload (x := v10) dX8_request_81 rfl ?_
        refine X_iconst 0 dX8_request_83 rfl ?_
        refine X_iconst 0 dX8_request_84 rfl ?_
        refine X_vV (μ' := mX6_set) [.int v10, .int 0, .int 0] [] kL_RX8_83 kM_X6_set rv_14 rfl rfl rfl dX8_request_85 h (fun _ hv => x_X6_set xT_14 hv) (fun M11 h => ?_)
        refine X_aload_n (x := 0) dX8_request_88 rfl ?_
        refine X_get (v := .ref 1) kF_RX8_10 sh_0 rfl rfl dX8_request_89 ?_
        refine X_get (v := .ref 14) kF_RX8_148 sh_1 rfl rfl dX8_request_92 ?_
        refine X_iload (x := v10) dX8_request_95 rfl ?_
        refine X_iconst 1 dX8_request_97 rfl ?_
        refine X_iload_n (x := a1) dX8_request_98 rfl ?_
        refine X_vV (μ' := mX6_set) [.int v10, .int 1, .int a1] [] kL_RX8_83 kM_X6_set rv_14 rfl rfl rfl dX8_request_99 h (fun _ hv => x_X6_set xT_14 hv) (fun M12 h => ?_)
        refine X_aload_n (x := 0) dX8_request_102 rfl ?_
        refine X_get (v := .ref 1) kF_RX8_10 sh_0 rfl rfl dX8_request_103 ?_
        refine X_get (v := .ref 14) kF_RX8_148 sh_1 rfl rfl dX8_request_106 ?_
        refine X_iload (x := v10) dX8_request_109 rfl ?_
        refine X_iconst 2 dX8_request_111 rfl ?_
        refine X_iload_n (x := a2) dX8_request_112 rfl ?_
        refine X_vV (μ' := mX6_set) [.int v10, .int 2, .int a2] [] kL_RX8_83 kM_X6_set rv_14 rfl rfl rfl dX8_request_113 h (fun _ hv => x_X6_set xT_14 hv) (fun M13 h => ?_)
        refine X_aload_n (x := 0) dX8_request_116 rfl ?_
        refine X_get (v := .ref 1) kF_RX8_10 sh_0 rfl rfl dX8_request_117 ?_
        refine X_get (v := .ref 14) kF_RX8_148 sh_1 rfl rfl dX8_request_120 ?_
        refine X_iload (x := v10) dX8_request_123 rfl ?_
        refine X_iconst 3 dX8_request_125 rfl ?_
        refine X_iload_n (x := a3) dX8_request_126 rfl ?_
        refine X_vV (μ' := mX6_set) [.int v10, .int 3, .int a3] [] kL_RX8_83 kM_X6_set rv_14 rfl rfl rfl dX8_request_127 h (fun _ hv => x_X6_set xT_14 hv) (fun M14 h => ?_)
        refine X_aload_n (x := 0) dX8_request_130 rfl ?_
        refine X_get (v := .ref 1) kF_RX8_10 sh_0 rfl rfl dX8_request_131 ?_
        refine X_get (v := .ref 14) kF_RX8_148 sh_1 rfl rfl dX8_request_134 ?_
        refine X_iload (x := v10) dX8_request_137 rfl ?_
        refine X_iconst 4 dX8_request_139 rfl ?_
        refine X_iload (x := a4) dX8_request_140 rfl ?_
        refine X_vV (μ' := mX6_set) [.int v10, .int 4, .int a4] [] kL_RX8_83 kM_X6_set rv_14 rfl rfl rfl dX8_request_142 h (fun _ hv => x_X6_set xT_14 hv) (fun M15 h => ?_)
        refine X_aload_n (x := 0) dX8_request_145 rfl ?_
        refine X_get (v := .ref 1) kF_RX8_10 sh_0 rfl rfl dX8_request_146 ?_
        refine X_get (v := .ref 14) kF_RX8_148 sh_1 rfl rfl dX8_request_149 ?_
        refine X_iload (x := v10) dX8_request_152 rfl ?_
        refine X_iconst 5 dX8_request_154 rfl ?_
        refine X_iload (x := a5) dX8_request_155 rfl ?_
        refine X_vV (μ' := mX6_set) [.int v10, .int 5, .int a5] [] kL_RX8_83 kM_X6_set rv_14 rfl rfl rfl dX8_request_157 h (fun _ hv => x_X6_set xT_14 hv) (fun M16 h => ?_)
        refine X_aload_n (x := 0) dX8_request_160 rfl ?_
        refine X_get (v := .ref 1) kF_RX8_10 sh_0 rfl rfl dX8_request_161 ?_
        refine X_get (v := .ref 14) kF_RX8_148 sh_1 rfl rfl dX8_request_164 ?_
        refine X_iload (x := v10) dX8_request_167 rfl ?_
        refine X_bipush 6 dX8_request_169 rfl ?_
        refine X_iload (x := a6) dX8_request_171 rfl ?_
        refine X_vV (μ' := mX6_set) [.int v10, .int 6, .int a6] [] kL_RX8_83 kM_X6_set rv_14 rfl rfl rfl dX8_request_173 h (fun _ hv => x_X6_set xT_14 hv) (fun M17 h => ?_)
        refine X_aload_n (x := 0) dX8_request_176 rfl ?_
        refine X_get (v := .ref 1) kF_RX8_10 sh_0 rfl rfl dX8_request_177 ?_
        refine X_get (v := .ref 14) kF_RX8_148 sh_1 rfl rfl dX8_request_180 ?_
        refine X_iload (x := v10) dX8_request_183 rfl ?_
        refine X_bipush 7 dX8_request_185 rfl ?_
        refine X_aload_n (x := 0) dX8_request_187 rfl ?_
        refine X_get (v := .ref 1) kF_RX8_10 sh_0 rfl rfl dX8_request_188 ?_
        refine X_get (v := .int (M17 1 8)) kF_RX8_151 sh_1 rfl rfl dX8_request_191 ?_
        refine X_bipush 30 dX8_request_194 rfl ?_
        refine X_iadd dX8_request_196 ?_
        refine X_sipush 9999 dX8_request_197 rfl ?_
        refine X_min kJ_RX8_155 (Nat.le_of_ble_eq_true rfl) (Nat.le_of_ble_eq_true rfl) (Nat.le_refl _) (Nat.le_refl _) dX8_request_200 ?_
        refine X_vV (μ' := mX6_set) [.int v10, .int 7, .int (xmn ((M17 1 8) + 30) 9999)] [] kL_RX8_83 kM_X6_set rv_14 rfl rfl rfl dX8_request_203 h (fun _ hv => x_X6_set xT_14 hv) (fun M18 h => ?_)
        refine X_aload_n (x := 0) dX8_request_206 rfl ?_
        refine X_get (v := .ref 1) kF_RX8_10 sh_0 rfl rfl dX8_request_207 ?_
        refine X_get (v := .ref 14) kF_RX8_148 sh_1 rfl rfl dX8_request_210 ?_
        refine X_iload (x := v10) dX8_request_213 rfl ?_
        refine X_bipush 8 dX8_request_215 rfl ?_
        refine X_bipush (-6) dX8_request_217 rfl ?_
        refine X_vV (μ' := mX6_set) [.int v10, .int 8, .int (-6)] [] kL_RX8_83 kM_X6_set rv_14 rfl rfl rfl dX8_request_219 h (fun _ hv => x_X6_set xT_14 hv) (fun M19 h => ?_)
        refine X_iload (x := v10) dX8_request_222 rfl ?_
        exact X_retI dX8_request_224 rfl (Nat.le_refl _) (Nat.le_refl _) h
      · refine X_bipush (-4) dX8_request_48 rfl ?_
        exact X_retI dX8_request_50 rfl (Nat.le_refl _) (Nat.le_refl _) h
    · refine X_bipush (-2) dX8_request_32 rfl ?_
      exact X_retI dX8_request_34 rfl (Nat.le_refl _) (Nat.le_refl _) h
  · refine X_iload (x := v4) dX8_request_18 rfl ?_
    exact X_retI dX8_request_20 rfl (Nat.le_refl _) (Nat.le_refl _) h
def f_X8_isOpen (M : xM) (a1 : Int32) : Option Int32 :=
  xb (f_X6_get 14 15 160 M a1 0) fun v1 =>
  if v1 = 0 then (
    some 1)
  else (
    some 0)
set_option maxHeartbeats 1000000 in
theorem x_X8_isOpen {ξ : xX} {M : xM} {a1 : Int32} {z : Int32} (h : f_X8_isOpen M a1 = some z) : X ξ mX8_isOpen 0 [.ref 0, .int a1] [] SH M 0 0 (xr (some (.int z)) SH M) := by
  rw [f_X8_isOpen] at h
  refine X_aload_n (x := 0) dX8_isOpen_0 rfl ?_
  refine X_get (v := .ref 1) kF_RX8_10 sh_0 rfl rfl dX8_isOpen_1 ?_
  refine X_get (v := .ref 14) kF_RX8_148 sh_1 rfl rfl dX8_isOpen_4 ?_
  refine X_iload_n (x := a1) dX8_isOpen_7 rfl ?_
  refine X_iconst 0 dX8_isOpen_8 rfl ?_
  refine X_vP (μ' := mX6_get) [.int a1, .int 0] [] kL_RX8_98 kM_X6_get rv_14 rfl rfl rfl dX8_isOpen_9 h (fun _ hv => x_X6_get xT_14 hv) (fun v1 h => ?_)
  refine X_if_ne 19 dX8_isOpen_12 (by decide) h (fun h => ?_) (fun h => ?_)
  · refine X_iconst 0 dX8_isOpen_19 rfl ?_
    exact X_retLP (by decide) dX8_isOpen_20 rfl (Nat.le_refl _) (Nat.le_refl _) h
  · refine X_iconst 1 dX8_isOpen_15 rfl ?_
    refine X_goto 20 dX8_isOpen_16 (by decide) ?_
    exact X_retLP (by decide) dX8_isOpen_20 rfl (Nat.le_refl _) (Nat.le_refl _) h
def f_X8_withdraw (M : xM) (a1 : Int32) : Option (Int32 × xM) :=
  xb (f_X6_has 14 15 160 M a1) fun v1 =>
  if v1 = 0 then (
    some ((-1), M))
  else (
    xb (f_X8_isOpen M a1) fun v2 =>
    if v2 = 0 then (
      some ((-3), M))
    else (
      xb (f_X1_keep M) fun M3 =>
      xb (f_X6_set 14 15 160 M3 a1 0 3) fun M4 =>
      xb (f_X6_countOf 14 15 160 M4 0 0) fun v5 =>
      some (v5, M4)))
set_option maxHeartbeats 1000000 in
theorem x_X8_withdraw {ξ : xX} {M : xM} {a1 : Int32} {z : (Int32 × xM)} (h : f_X8_withdraw M a1 = some z) : X ξ mX8_withdraw 0 [.ref 0, .int a1] [] SH M 0 0 (xr (some (.int z.1)) SH z.2) := by
  rw [f_X8_withdraw] at h
  refine X_aload_n (x := 0) dX8_withdraw_0 rfl ?_
  refine X_get (v := .ref 1) kF_RX8_10 sh_0 rfl rfl dX8_withdraw_1 ?_
  refine X_get (v := .ref 14) kF_RX8_148 sh_1 rfl rfl dX8_withdraw_4 ?_
  refine X_iload_n (x := a1) dX8_withdraw_7 rfl ?_
  refine X_vP (μ' := mX6_has) [.int a1] [] kL_RX8_94 kM_X6_has rv_14 rfl rfl rfl dX8_withdraw_8 h (fun _ hv => x_X6_has xT_14 hv) (fun v1 h => ?_)
  refine X_if_ne 16 dX8_withdraw_11 (by decide) h (fun h => ?_) (fun h => ?_)
  · refine X_aload_n (x := 0) dX8_withdraw_16 rfl ?_
    refine X_iload_n (x := a1) dX8_withdraw_17 rfl ?_
    refine X_vP (μ' := mX8_isOpen) [.int a1] [] kL_RX8_160 kM_X8_isOpen rv_0 rfl rfl rfl dX8_withdraw_18 h (fun _ hv => x_X8_isOpen hv) (fun v2 h => ?_)
    refine X_if_ne 27 dX8_withdraw_21 (by decide) h (fun h => ?_) (fun h => ?_)
    · refine X_aload_n (x := 0) dX8_withdraw_27 rfl ?_
      refine X_get (v := .ref 18) kF_RX8_19 sh_0 rfl rfl dX8_withdraw_28 ?_
      refine X_aload_n (x := 0) dX8_withdraw_31 rfl ?_
      refine X_get (v := .ref 1) kF_RX8_10 sh_0 rfl rfl dX8_withdraw_32 ?_
      refine X_vV (μ' := mX1_keep) [.ref 1] [] kL_RX8_75 kM_X1_keep rv_18 rfl rfl rfl dX8_withdraw_35 h (fun _ hv => x_X1_keep hv) (fun M3 h => ?_)
      refine X_aload_n (x := 0) dX8_withdraw_38 rfl ?_
      refine X_get (v := .ref 1) kF_RX8_10 sh_0 rfl rfl dX8_withdraw_39 ?_
      refine X_get (v := .ref 14) kF_RX8_148 sh_1 rfl rfl dX8_withdraw_42 ?_
      refine X_iload_n (x := a1) dX8_withdraw_45 rfl ?_
      refine X_iconst 0 dX8_withdraw_46 rfl ?_
      refine X_iconst 3 dX8_withdraw_47 rfl ?_
      refine X_vV (μ' := mX6_set) [.int a1, .int 0, .int 3] [] kL_RX8_83 kM_X6_set rv_14 rfl rfl rfl dX8_withdraw_48 h (fun _ hv => x_X6_set xT_14 hv) (fun M4 h => ?_)
      refine X_aload_n (x := 0) dX8_withdraw_51 rfl ?_
      refine X_get (v := .ref 1) kF_RX8_10 sh_0 rfl rfl dX8_withdraw_52 ?_
      refine X_get (v := .ref 14) kF_RX8_148 sh_1 rfl rfl dX8_withdraw_55 ?_
      refine X_iconst 0 dX8_withdraw_58 rfl ?_
      refine X_iconst 0 dX8_withdraw_59 rfl ?_
      refine X_vP (μ' := mX6_countOf) [.int 0, .int 0] [] kL_RX8_141 kM_X6_countOf rv_14 rfl rfl rfl dX8_withdraw_60 h (fun _ hv => x_X6_countOf xT_14 hv) (fun v5 h => ?_)
      exact X_retI dX8_withdraw_63 rfl (Nat.le_refl _) (Nat.le_refl _) h
    · refine X_bipush (-3) dX8_withdraw_24 rfl ?_
      exact X_retI dX8_withdraw_26 rfl (Nat.le_refl _) (Nat.le_refl _) h
  · refine X_iconst (-1) dX8_withdraw_14 rfl ?_
    exact X_retI dX8_withdraw_15 rfl (Nat.le_refl _) (Nat.le_refl _) h
def f_X8_qualityInPass_87 (M : xM) (k49 : Int32 → Int32 → Int32 → Int32 → Int32 → Option Int32) (i1 : Int32) (i2 : Int32) (i3 : Int32) (i4 : Int32) (i5 : Int32) : Option Int32 :=
  xl (i5 + 1) fun v6 =>
  k49 i1 i2 i3 i4 v6
set_option maxHeartbeats 1000000 in
theorem x_X8_qualityInPass_87 {ξ : xX} {M : xM} {k49 : Int32 → Int32 → Int32 → Int32 → Int32 → Option Int32} {i1 : Int32} {i2 : Int32} {i3 : Int32} {i4 : Int32} {i5 : Int32} (hk49 : ∀ (j1 j2 j3 j4 j5 : Int32) (z : Int32), k49 j1 j2 j3 j4 j5 = some z → X ξ mX8_qualityInPass 49 [.ref 0, .int j1, .int j2, .int j3, .int j4, .int j5] [] SH M 0 0 (xr (some (.int z)) SH M)) {z : Int32} (h : f_X8_qualityInPass_87 M k49 i1 i2 i3 i4 i5 = some z) : X ξ mX8_qualityInPass 87 [.ref 0, .int i1, .int i2, .int i3, .int i4, .int i5] [] SH M 0 0 (xr (some (.int z)) SH M) := by
  rw [f_X8_qualityInPass_87] at h
  refine X_iincL (x := i5) 1 (fun v6 => [.ref 0, .int i1, .int i2, .int i3, .int i4, .int v6]) dX8_qualityInPass_87 rfl rfl (Nat.le_of_ble_eq_true rfl) (xcat1_of rfl) h (fun _ => rfl) (fun v6 h => ?_)
  refine X_goto 49 dX8_qualityInPass_90 (by decide) ?_
  exact hk49 _ _ _ _ _ _ h
def f_X8_qualityInPass_49 (M : xM) : Nat → Int32 → Int32 → Int32 → Int32 → Int32 → Option Int32
  | 0, _, _, _, _, _ => none
  | fu + 1, i1, i2, i3, i4, i5 =>
    if 4 ≤ i5 then (
      some i4)
    else (
      if (i3 &&& ((1 : Int32) <<< ((i5 : Int32) &&& 31))) = 0 then (
        f_X8_qualityInPass_87 M (f_X8_qualityInPass_49 M fu) i1 i2 i3 i4 i5)
      else (
        xb (f_X6_get 10 11 264 M i1 (7 + i5)) fun v7 =>
        xl (xmn i4 v7) fun v8 =>
        f_X8_qualityInPass_87 M (f_X8_qualityInPass_49 M fu) i1 i2 i3 v8 i5))
set_option maxHeartbeats 1000000 in
theorem x_X8_qualityInPass_49 {ξ : xX} {M : xM} : ∀ (fu : Nat) (i1 i2 i3 i4 i5 : Int32) (z : Int32), f_X8_qualityInPass_49 M fu i1 i2 i3 i4 i5 = some z → X ξ mX8_qualityInPass 49 [.ref 0, .int i1, .int i2, .int i3, .int i4, .int i5] [] SH M 0 0 (xr (some (.int z)) SH M) := by
  intro fu
  induction fu with
  | zero => intro i1 i2 i3 i4 i5 z h; rw [f_X8_qualityInPass_49] at h; cases h
  | succ fu ih =>
    intro i1 i2 i3 i4 i5 z h
    rw [f_X8_qualityInPass_49] at h
    refine X_iload (x := i5) dX8_qualityInPass_49 rfl ?_
    refine X_iconst 4 dX8_qualityInPass_51 rfl ?_
    refine X_icmp_ge 93 dX8_qualityInPass_52 (by decide) h (fun h => ?_) (fun h => ?_)
    · refine X_iload (x := i4) dX8_qualityInPass_93 rfl ?_
      exact X_retP dX8_qualityInPass_95 rfl (Nat.le_refl _) (Nat.le_refl _) h
    · refine X_iload_n (x := i3) dX8_qualityInPass_55 rfl ?_
      refine X_iconst 1 dX8_qualityInPass_56 rfl ?_
      refine X_iload (x := i5) dX8_qualityInPass_57 rfl ?_
      refine X_ishl dX8_qualityInPass_59 ?_
      refine X_iand dX8_qualityInPass_60 ?_
      refine X_if_eq 87 dX8_qualityInPass_61 (by decide) h (fun h => ?_) (fun h => ?_)
      · exact x_X8_qualityInPass_87 ih h
      · refine X_iload (x := i4) dX8_qualityInPass_64 rfl ?_
        refine X_aload_n (x := 0) dX8_qualityInPass_66 rfl ?_
        refine X_get (v := .ref 1) kF_RX8_10 sh_0 rfl rfl dX8_qualityInPass_67 ?_
        refine X_get (v := .ref 10) kF_RX8_215 sh_1 rfl rfl dX8_qualityInPass_70 ?_
        refine X_iload_n (x := i1) dX8_qualityInPass_73 rfl ?_
        refine X_bipush 7 dX8_qualityInPass_74 rfl ?_
        refine X_iload (x := i5) dX8_qualityInPass_76 rfl ?_
        refine X_iadd dX8_qualityInPass_78 ?_
        refine X_vP (μ' := mX6_get) [.int i1, .int (7 + i5)] [.int i4] kL_RX8_98 kM_X6_get rv_10 rfl rfl rfl dX8_qualityInPass_79 h (fun _ hv => x_X6_get xT_10 hv) (fun v7 h => ?_)
        refine X_min kJ_RX8_155 (Nat.le_of_ble_eq_true rfl) (Nat.le_of_ble_eq_true rfl) (Nat.le_refl _) (Nat.le_refl _) dX8_qualityInPass_82 ?_
        refine X_istoreL (fun v8 => [.ref 0, .int i1, .int i2, .int i3, .int v8, .int i5]) dX8_qualityInPass_85 (Nat.le_of_ble_eq_true rfl) (Nat.le_of_ble_eq_true rfl) (xcat1_of rfl) h (fun _ => rfl) (fun v8 h => ?_)
        exact x_X8_qualityInPass_87 ih h
def f_X8_qualityInPass (M : xM) (a1 a2 : Int32) : Option Int32 :=
  xb (f_X6_get 10 11 264 M a1 0) fun v9 =>
  xb (f_X6_get 6 7 96 M a2 0) fun v10 =>
  if v9 = v10 then (
    xb (f_X6_get 6 7 96 M a2 1) fun v11 =>
    xl v11 fun v12 =>
    xl (100 : Int32) fun v13 =>
    xl (0 : Int32) fun v14 =>
    f_X8_qualityInPass_49 M xFU a1 a2 v12 v13 v14)
  else (
    some 0)
set_option maxHeartbeats 1000000 in
theorem x_X8_qualityInPass {ξ : xX} {M : xM} {a1 a2 : Int32} {z : Int32} (h : f_X8_qualityInPass M a1 a2 = some z) : X ξ mX8_qualityInPass 0 [.ref 0, .int a1, .int a2] [] SH M 0 0 (xr (some (.int z)) SH M) := by
  rw [f_X8_qualityInPass] at h
  refine X_aload_n (x := 0) dX8_qualityInPass_0 rfl ?_
  refine X_get (v := .ref 1) kF_RX8_10 sh_0 rfl rfl dX8_qualityInPass_1 ?_
  refine X_get (v := .ref 10) kF_RX8_215 sh_1 rfl rfl dX8_qualityInPass_4 ?_
  refine X_iload_n (x := a1) dX8_qualityInPass_7 rfl ?_
  refine X_iconst 0 dX8_qualityInPass_8 rfl ?_
  refine X_vP (μ' := mX6_get) [.int a1, .int 0] [] kL_RX8_98 kM_X6_get rv_10 rfl rfl rfl dX8_qualityInPass_9 h (fun _ hv => x_X6_get xT_10 hv) (fun v9 h => ?_)
  refine X_aload_n (x := 0) dX8_qualityInPass_12 rfl ?_
  refine X_get (v := .ref 1) kF_RX8_10 sh_0 rfl rfl dX8_qualityInPass_13 ?_
  refine X_get (v := .ref 6) kF_RX8_109 sh_1 rfl rfl dX8_qualityInPass_16 ?_
  refine X_iload_n (x := a2) dX8_qualityInPass_19 rfl ?_
  refine X_iconst 0 dX8_qualityInPass_20 rfl ?_
  refine X_vP (μ' := mX6_get) [.int a2, .int 0] [.int v9] kL_RX8_98 kM_X6_get rv_6 rfl rfl rfl dX8_qualityInPass_21 h (fun _ hv => x_X6_get xT_6 hv) (fun v10 h => ?_)
  refine X_icmp_eq 29 dX8_qualityInPass_24 (by decide) h (fun h => ?_) (fun h => ?_)
  · refine X_aload_n (x := 0) dX8_qualityInPass_29 rfl ?_
    refine X_get (v := .ref 1) kF_RX8_10 sh_0 rfl rfl dX8_qualityInPass_30 ?_
    refine X_get (v := .ref 6) kF_RX8_109 sh_1 rfl rfl dX8_qualityInPass_33 ?_
    refine X_iload_n (x := a2) dX8_qualityInPass_36 rfl ?_
    refine X_iconst 1 dX8_qualityInPass_37 rfl ?_
    refine X_vP (μ' := mX6_get) [.int a2, .int 1] [] kL_RX8_98 kM_X6_get rv_6 rfl rfl rfl dX8_qualityInPass_38 h (fun _ hv => x_X6_get xT_6 hv) (fun v11 h => ?_)
    refine X_istoreL_n (fun v12 => [.ref 0, .int a1, .int a2, .int v12]) dX8_qualityInPass_41 (Nat.le_of_ble_eq_true rfl) (Nat.le_of_ble_eq_true rfl) (xcat1_of rfl) h (fun _ => rfl) (fun v12 h => ?_)
    refine X_bipush 100 dX8_qualityInPass_42 rfl ?_
    refine X_istoreL (fun v13 => [.ref 0, .int a1, .int a2, .int v12, .int v13]) dX8_qualityInPass_44 (Nat.le_of_ble_eq_true rfl) (Nat.le_of_ble_eq_true rfl) (xcat1_of rfl) h (fun _ => rfl) (fun v13 h => ?_)
    refine X_iconst 0 dX8_qualityInPass_46 rfl ?_
    refine X_istoreL (fun v14 => [.ref 0, .int a1, .int a2, .int v12, .int v13, .int v14]) dX8_qualityInPass_47 (Nat.le_of_ble_eq_true rfl) (Nat.le_of_ble_eq_true rfl) (xcat1_of rfl) h (fun _ => rfl) (fun v14 h => ?_)
    exact x_X8_qualityInPass_49 _ _ _ _ _ _ _ h
  · refine X_iconst 0 dX8_qualityInPass_27 rfl ?_
    exact X_retP dX8_qualityInPass_28 rfl (Nat.le_refl _) (Nat.le_refl _) h
def f_X8_findBestPass_44 (M : xM) (k8 : Int32 → Int32 → Int32 → Int32 → Option Int32) (i1 : Int32) (i2 : Int32) (i3 : Int32) (i4 : Int32) (i5 : Int32) : Option Int32 :=
  xl (i4 + 1) fun v8 =>
  k8 i1 i2 i3 v8
set_option maxHeartbeats 1000000 in
theorem x_X8_findBestPass_44 {ξ : xX} {M : xM} {k8 : Int32 → Int32 → Int32 → Int32 → Option Int32} {i1 : Int32} {i2 : Int32} {i3 : Int32} {i4 : Int32} {i5 : Int32} (hk8 : ∀ (j1 j2 j3 j4 : Int32) (z : Int32), k8 j1 j2 j3 j4 = some z → X ξ mX8_findBestPass 8 [.ref 0, .int j1, .int j2, .int j3, .int j4] [] SH M 0 0 (xr (some (.int z)) SH M)) {z : Int32} (h : f_X8_findBestPass_44 M k8 i1 i2 i3 i4 i5 = some z) : X ξ mX8_findBestPass 44 [.ref 0, .int i1, .int i2, .int i3, .int i4, .int i5] [] SH M 0 0 (xr (some (.int z)) SH M) := by
  rw [f_X8_findBestPass_44] at h
  refine X_iincL (x := i4) 1 (fun v8 => [.ref 0, .int i1, .int i2, .int i3, .int v8, .int i5]) dX8_findBestPass_44 rfl rfl (Nat.le_of_ble_eq_true rfl) (xcat1_of rfl) h (fun _ => rfl) (fun v8 h => ?_)
  refine X_goto 8 dX8_findBestPass_47 (by decide) ?_
  refine X_cut 5 ?_
  exact hk8 _ _ _ _ _ h
def f_X8_findBestPass_8 (M : xM) : Nat → Int32 → Int32 → Int32 → Int32 → Option Int32
  | 0, _, _, _, _ => none
  | fu + 1, i1, i2, i3, i4 =>
    if (M 10 2) ≤ i4 then (
      some i2)
    else (
      xb (f_X8_qualityInPass M i4 i1) fun v9 =>
      xl v9 fun v10 =>
      if v10 ≤ i3 then (
        f_X8_findBestPass_44 M (f_X8_findBestPass_8 M fu) i1 i2 i3 i4 v10)
      else (
        xl v10 fun v11 =>
        xl i4 fun v12 =>
        f_X8_findBestPass_44 M (f_X8_findBestPass_8 M fu) i1 v12 v11 i4 v10))
set_option maxHeartbeats 1000000 in
theorem x_X8_findBestPass_8 {ξ : xX} {M : xM} : ∀ (fu : Nat) (i1 i2 i3 i4 : Int32) (z : Int32), f_X8_findBestPass_8 M fu i1 i2 i3 i4 = some z → X ξ mX8_findBestPass 8 [.ref 0, .int i1, .int i2, .int i3, .int i4] [] SH M 0 0 (xr (some (.int z)) SH M) := by
  intro fu
  induction fu with
  | zero => intro i1 i2 i3 i4 z h; rw [f_X8_findBestPass_8] at h; cases h
  | succ fu ih =>
    intro i1 i2 i3 i4 z h
    rw [f_X8_findBestPass_8] at h
    refine X_iload (x := i4) dX8_findBestPass_8 rfl ?_
    refine X_aload_n (x := 0) dX8_findBestPass_10 rfl ?_
    refine X_get (v := .ref 1) kF_RX8_10 sh_0 rfl rfl dX8_findBestPass_11 ?_
    refine X_get (v := .ref 10) kF_RX8_215 sh_1 rfl rfl dX8_findBestPass_14 ?_
    refine X_get (v := .int (M 10 2)) kF_RX8_236 sh_10 rfl rfl dX8_findBestPass_17 ?_
    refine X_icmp_ge 50 dX8_findBestPass_20 (by decide) h (fun h => ?_) (fun h => ?_)
    · refine X_iload_n (x := i2) dX8_findBestPass_50 rfl ?_
      exact X_retP dX8_findBestPass_51 rfl (Nat.le_refl _) (Nat.le_refl _) h
    · refine X_aload_n (x := 0) dX8_findBestPass_23 rfl ?_
      refine X_iload (x := i4) dX8_findBestPass_24 rfl ?_
      refine X_iload_n (x := i1) dX8_findBestPass_26 rfl ?_
      refine X_vP (μ' := mX8_qualityInPass) [.int i4, .int i1] [] kL_RX8_221 kM_X8_qualityInPass rv_0 rfl rfl rfl dX8_findBestPass_27 h (fun _ hv => x_X8_qualityInPass hv) (fun v9 h => ?_)
      refine X_istoreL (fun v10 => [.ref 0, .int i1, .int i2, .int i3, .int i4, .int v10]) dX8_findBestPass_30 (Nat.le_of_ble_eq_true rfl) (Nat.le_of_ble_eq_true rfl) (xcat1_of rfl) h (fun _ => rfl) (fun v10 h => ?_)
      refine X_iload (x := v10) dX8_findBestPass_32 rfl ?_
      refine X_iload_n (x := i3) dX8_findBestPass_34 rfl ?_
      refine X_icmp_le 44 dX8_findBestPass_35 (by decide) h (fun h => ?_) (fun h => ?_)
      · exact x_X8_findBestPass_44 ih h
      · refine X_iload (x := v10) dX8_findBestPass_38 rfl ?_
        refine X_istoreL_n (fun v11 => [.ref 0, .int i1, .int i2, .int v11, .int i4, .int v10]) dX8_findBestPass_40 (Nat.le_of_ble_eq_true rfl) (Nat.le_of_ble_eq_true rfl) (xcat1_of rfl) h (fun _ => rfl) (fun v11 h => ?_)
        refine X_iload (x := i4) dX8_findBestPass_41 rfl ?_
        refine X_istoreL_n (fun v12 => [.ref 0, .int i1, .int v12, .int v11, .int i4, .int v10]) dX8_findBestPass_43 (Nat.le_of_ble_eq_true rfl) (Nat.le_of_ble_eq_true rfl) (xcat1_of rfl) h (fun _ => rfl) (fun v12 h => ?_)
        exact x_X8_findBestPass_44 ih h
def f_X8_findBestPass (M : xM) (a1 : Int32) : Option Int32 :=
  xl (-6 : Int32) fun v13 =>
  xl (0 : Int32) fun v14 =>
  xl (0 : Int32) fun v15 =>
  f_X8_findBestPass_8 M xFU a1 v13 v14 v15
set_option maxHeartbeats 1000000 in
theorem x_X8_findBestPass {ξ : xX} {M : xM} {a1 : Int32} {z : Int32} (h : f_X8_findBestPass M a1 = some z) : X ξ mX8_findBestPass 0 [.ref 0, .int a1] [] SH M 0 0 (xr (some (.int z)) SH M) := by
  rw [f_X8_findBestPass] at h
  refine X_bipush (-6) dX8_findBestPass_0 rfl ?_
  refine X_istoreL_n (fun v13 => [.ref 0, .int a1, .int v13]) dX8_findBestPass_2 (Nat.le_of_ble_eq_true rfl) (Nat.le_of_ble_eq_true rfl) (xcat1_of rfl) h (fun _ => rfl) (fun v13 h => ?_)
  refine X_iconst 0 dX8_findBestPass_3 rfl ?_
  refine X_istoreL_n (fun v14 => [.ref 0, .int a1, .int v13, .int v14]) dX8_findBestPass_4 (Nat.le_of_ble_eq_true rfl) (Nat.le_of_ble_eq_true rfl) (xcat1_of rfl) h (fun _ => rfl) (fun v14 h => ?_)
  refine X_iconst 0 dX8_findBestPass_5 rfl ?_
  refine X_istoreL (fun v15 => [.ref 0, .int a1, .int v13, .int v14, .int v15]) dX8_findBestPass_6 (Nat.le_of_ble_eq_true rfl) (Nat.le_of_ble_eq_true rfl) (xcat1_of rfl) h (fun _ => rfl) (fun v15 h => ?_)
  exact x_X8_findBestPass_8 _ _ _ _ _ _ h
def f_X8_isProtected (M : xM) (a1 : Int32) : Option Int32 :=
  xb (f_X6_get 8 9 256 M a1 3) fun v1 =>
  if v1 ≤ (M 1 8) then (
    some 0)
  else (
    some 1)
set_option maxHeartbeats 1000000 in
theorem x_X8_isProtected {ξ : xX} {M : xM} {a1 : Int32} {z : Int32} (h : f_X8_isProtected M a1 = some z) : X ξ mX8_isProtected 0 [.ref 0, .int a1] [] SH M 0 0 (xr (some (.int z)) SH M) := by
  rw [f_X8_isProtected] at h
  refine X_aload_n (x := 0) dX8_isProtected_0 rfl ?_
  refine X_get (v := .ref 1) kF_RX8_10 sh_0 rfl rfl dX8_isProtected_1 ?_
  refine X_get (v := .int (M 1 8)) kF_RX8_151 sh_1 rfl rfl dX8_isProtected_4 ?_
  refine X_aload_n (x := 0) dX8_isProtected_7 rfl ?_
  refine X_get (v := .ref 1) kF_RX8_10 sh_0 rfl rfl dX8_isProtected_8 ?_
  refine X_get (v := .ref 8) kF_RX8_128 sh_1 rfl rfl dX8_isProtected_11 ?_
  refine X_iload_n (x := a1) dX8_isProtected_14 rfl ?_
  refine X_iconst 3 dX8_isProtected_15 rfl ?_
  refine X_vP (μ' := mX6_get) [.int a1, .int 3] [.int (M 1 8)] kL_RX8_98 kM_X6_get rv_8 rfl rfl rfl dX8_isProtected_16 h (fun _ hv => x_X6_get xT_8 hv) (fun v1 h => ?_)
  refine X_icmp_ge 26 dX8_isProtected_19 (by decide) h (fun h => ?_) (fun h => ?_)
  · refine X_iconst 0 dX8_isProtected_26 rfl ?_
    exact X_retLP (by decide) dX8_isProtected_27 rfl (Nat.le_refl _) (Nat.le_refl _) h
  · refine X_iconst 1 dX8_isProtected_22 rfl ?_
    refine X_goto 27 dX8_isProtected_23 (by decide) ?_
    exact X_retLP (by decide) dX8_isProtected_27 rfl (Nat.le_refl _) (Nat.le_refl _) h
def f_X8_boundSeconds (M : xM) (a1 a2 a3 a4 : Int32) : Option Int32 :=
  xb (f_X8_isProtected M a1) fun v3 =>
  if v3 = 0 then (
    some 0)
  else (
    xb (f_X6_get 8 9 256 M a1 2) fun v4 =>
    if v4 = a2 then (
      some 0)
    else (
      xb (f_X6_get 8 9 256 M a1 0) fun v5 =>
      xl (xmx a3 v5) fun v6 =>
      xb (f_X6_get 8 9 256 M a1 1) fun v7 =>
      xl (xmn a4 v7) fun v8 =>
      some (xmx 0 (v8 - v6))))
set_option maxHeartbeats 1000000 in
theorem x_X8_boundSeconds {ξ : xX} {M : xM} {a1 a2 a3 a4 : Int32} {z : Int32} (h : f_X8_boundSeconds M a1 a2 a3 a4 = some z) : X ξ mX8_boundSeconds 0 [.ref 0, .int a1, .int a2, .int a3, .int a4] [] SH M 0 0 (xr (some (.int z)) SH M) := by
  rw [f_X8_boundSeconds] at h
  refine X_aload_n (x := 0) dX8_boundSeconds_0 rfl ?_
  refine X_iload_n (x := a1) dX8_boundSeconds_1 rfl ?_
  refine X_vP (μ' := mX8_isProtected) [.int a1] [] kL_RX8_212 kM_X8_isProtected rv_0 rfl rfl rfl dX8_boundSeconds_2 h (fun _ hv => x_X8_isProtected hv) (fun v3 h => ?_)
  refine X_if_eq 24 dX8_boundSeconds_5 (by decide) h (fun h => ?_) (fun h => ?_)
  · refine X_iconst 0 dX8_boundSeconds_24 rfl ?_
    exact X_retP dX8_boundSeconds_25 rfl (Nat.le_refl _) (Nat.le_refl _) h
  · refine X_aload_n (x := 0) dX8_boundSeconds_8 rfl ?_
    refine X_get (v := .ref 1) kF_RX8_10 sh_0 rfl rfl dX8_boundSeconds_9 ?_
    refine X_get (v := .ref 8) kF_RX8_128 sh_1 rfl rfl dX8_boundSeconds_12 ?_
    refine X_iload_n (x := a1) dX8_boundSeconds_15 rfl ?_
    refine X_iconst 2 dX8_boundSeconds_16 rfl ?_
    refine X_vP (μ' := mX6_get) [.int a1, .int 2] [] kL_RX8_98 kM_X6_get rv_8 rfl rfl rfl dX8_boundSeconds_17 h (fun _ hv => x_X6_get xT_8 hv) (fun v4 h => ?_)
    refine X_iload_n (x := a2) dX8_boundSeconds_20 rfl ?_
    refine X_icmp_ne 26 dX8_boundSeconds_21 (by decide) h (fun h => ?_) (fun h => ?_)
    · refine X_iload_n (x := a3) dX8_boundSeconds_26 rfl ?_
      refine X_aload_n (x := 0) dX8_boundSeconds_27 rfl ?_
      refine X_get (v := .ref 1) kF_RX8_10 sh_0 rfl rfl dX8_boundSeconds_28 ?_
      refine X_get (v := .ref 8) kF_RX8_128 sh_1 rfl rfl dX8_boundSeconds_31 ?_
      refine X_iload_n (x := a1) dX8_boundSeconds_34 rfl ?_
      refine X_iconst 0 dX8_boundSeconds_35 rfl ?_
      refine X_vP (μ' := mX6_get) [.int a1, .int 0] [.int a3] kL_RX8_98 kM_X6_get rv_8 rfl rfl rfl dX8_boundSeconds_36 h (fun _ hv => x_X6_get xT_8 hv) (fun v5 h => ?_)
      refine X_max kJ_RX8_319 (Nat.le_of_ble_eq_true rfl) (Nat.le_of_ble_eq_true rfl) (Nat.le_refl _) (Nat.le_refl _) dX8_boundSeconds_39 ?_
      refine X_istoreL (fun v6 => [.ref 0, .int a1, .int a2, .int a3, .int a4, .int v6]) dX8_boundSeconds_42 (Nat.le_of_ble_eq_true rfl) (Nat.le_of_ble_eq_true rfl) (xcat1_of rfl) h (fun _ => rfl) (fun v6 h => ?_)
      refine X_iload (x := a4) dX8_boundSeconds_44 rfl ?_
      refine X_aload_n (x := 0) dX8_boundSeconds_46 rfl ?_
      refine X_get (v := .ref 1) kF_RX8_10 sh_0 rfl rfl dX8_boundSeconds_47 ?_
      refine X_get (v := .ref 8) kF_RX8_128 sh_1 rfl rfl dX8_boundSeconds_50 ?_
      refine X_iload_n (x := a1) dX8_boundSeconds_53 rfl ?_
      refine X_iconst 1 dX8_boundSeconds_54 rfl ?_
      refine X_vP (μ' := mX6_get) [.int a1, .int 1] [.int a4] kL_RX8_98 kM_X6_get rv_8 rfl rfl rfl dX8_boundSeconds_55 h (fun _ hv => x_X6_get xT_8 hv) (fun v7 h => ?_)
      refine X_min kJ_RX8_155 (Nat.le_of_ble_eq_true rfl) (Nat.le_of_ble_eq_true rfl) (Nat.le_refl _) (Nat.le_refl _) dX8_boundSeconds_58 ?_
      refine X_istoreL (fun v8 => [.ref 0, .int a1, .int a2, .int a3, .int a4, .int v6, .int v8]) dX8_boundSeconds_61 (Nat.le_of_ble_eq_true rfl) (Nat.le_of_ble_eq_true rfl) (xcat1_of rfl) h (fun _ => rfl) (fun v8 h => ?_)
      refine X_iconst 0 dX8_boundSeconds_63 rfl ?_
      refine X_iload (x := v8) dX8_boundSeconds_64 rfl ?_
      refine X_iload (x := v6) dX8_boundSeconds_66 rfl ?_
      refine X_isub dX8_boundSeconds_68 ?_
      refine X_max kJ_RX8_319 (Nat.le_of_ble_eq_true rfl) (Nat.le_of_ble_eq_true rfl) (Nat.le_refl _) (Nat.le_refl _) dX8_boundSeconds_69 ?_
      exact X_retP dX8_boundSeconds_72 rfl (Nat.le_refl _) (Nat.le_refl _) h
    · refine X_iconst 0 dX8_boundSeconds_24 rfl ?_
      exact X_retP dX8_boundSeconds_25 rfl (Nat.le_refl _) (Nat.le_refl _) h
def f_X8_isPermitted_110 (M : xM) (k3 : Int32 → Int32 → Int32 → Int32 → Option Int32) (i1 : Int32) (i2 : Int32) (i3 : Int32) (i4 : Int32) : Option Int32 :=
  xl (i4 + 1) fun v3 =>
  k3 i1 i2 i3 v3
set_option maxHeartbeats 1000000 in
theorem x_X8_isPermitted_110 {ξ : xX} {M : xM} {k3 : Int32 → Int32 → Int32 → Int32 → Option Int32} {i1 : Int32} {i2 : Int32} {i3 : Int32} {i4 : Int32} (hk3 : ∀ (j1 j2 j3 j4 : Int32) (z : Int32), k3 j1 j2 j3 j4 = some z → X ξ mX8_isPermitted 3 [.ref 0, .int j1, .int j2, .int j3, .int j4] [] SH M 0 0 (xr (some (.int z)) SH M)) {z : Int32} (h : f_X8_isPermitted_110 M k3 i1 i2 i3 i4 = some z) : X ξ mX8_isPermitted 110 [.ref 0, .int i1, .int i2, .int i3, .int i4] [] SH M 0 0 (xr (some (.int z)) SH M) := by
  rw [f_X8_isPermitted_110] at h
  refine X_iincL (x := i4) 1 (fun v3 => [.ref 0, .int i1, .int i2, .int i3, .int v3]) dX8_isPermitted_110 rfl rfl (Nat.le_of_ble_eq_true rfl) (xcat1_of rfl) h (fun _ => rfl) (fun v3 h => ?_)
  refine X_goto 3 dX8_isPermitted_113 (by decide) ?_
  exact hk3 _ _ _ _ _ h
def f_X8_isPermitted_3 (M : xM) : Nat → Int32 → Int32 → Int32 → Int32 → Option Int32
  | 0, _, _, _, _ => none
  | fu + 1, i1, i2, i3, i4 =>
    if (M 12 2) ≤ i4 then (
      some 0)
    else (
      xb (f_X6_get 12 13 120 M i4 4) fun v4 =>
      if v4 = 0 then (
        xb (f_X6_get 12 13 120 M i4 0) fun v5 =>
        if v5 = i1 then (
          xb (f_X6_get 12 13 120 M i4 1) fun v6 =>
          if v6 = i2 then (
            xb (f_X6_get 12 13 120 M i4 2) fun v7 =>
            if v7 < i3 then (
              f_X8_isPermitted_110 M (f_X8_isPermitted_3 M fu) i1 i2 i3 i4)
            else (
              xb (f_X6_get 12 13 120 M i4 3) fun v8 =>
              if v8 < (M 1 8) then (
                f_X8_isPermitted_110 M (f_X8_isPermitted_3 M fu) i1 i2 i3 i4)
              else (
                some 1)))
          else (
            f_X8_isPermitted_110 M (f_X8_isPermitted_3 M fu) i1 i2 i3 i4))
        else (
          f_X8_isPermitted_110 M (f_X8_isPermitted_3 M fu) i1 i2 i3 i4))
      else (
        f_X8_isPermitted_110 M (f_X8_isPermitted_3 M fu) i1 i2 i3 i4))
set_option maxHeartbeats 1000000 in
theorem x_X8_isPermitted_3 {ξ : xX} {M : xM} : ∀ (fu : Nat) (i1 i2 i3 i4 : Int32) (z : Int32), f_X8_isPermitted_3 M fu i1 i2 i3 i4 = some z → X ξ mX8_isPermitted 3 [.ref 0, .int i1, .int i2, .int i3, .int i4] [] SH M 0 0 (xr (some (.int z)) SH M) := by
  intro fu
  induction fu with
  | zero => intro i1 i2 i3 i4 z h; rw [f_X8_isPermitted_3] at h; cases h
  | succ fu ih =>
    intro i1 i2 i3 i4 z h
    rw [f_X8_isPermitted_3] at h
    refine X_iload (x := i4) dX8_isPermitted_3 rfl ?_
    refine X_aload_n (x := 0) dX8_isPermitted_5 rfl ?_
    refine X_get (v := .ref 1) kF_RX8_10 sh_0 rfl rfl dX8_isPermitted_6 ?_
    refine X_get (v := .ref 12) kF_RX8_138 sh_1 rfl rfl dX8_isPermitted_9 ?_
    refine X_get (v := .int (M 12 2)) kF_RX8_236 sh_12 rfl rfl dX8_isPermitted_12 ?_
    refine X_icmp_ge 116 dX8_isPermitted_15 (by decide) h (fun h => ?_) (fun h => ?_)
    · refine X_iconst 0 dX8_isPermitted_116 rfl ?_
      exact X_retLP (by decide) dX8_isPermitted_117 rfl (Nat.le_refl _) (Nat.le_refl _) h
    · refine X_aload_n (x := 0) dX8_isPermitted_18 rfl ?_
      refine X_get (v := .ref 1) kF_RX8_10 sh_0 rfl rfl dX8_isPermitted_19 ?_
      refine X_get (v := .ref 12) kF_RX8_138 sh_1 rfl rfl dX8_isPermitted_22 ?_
      refine X_iload (x := i4) dX8_isPermitted_25 rfl ?_
      refine X_iconst 4 dX8_isPermitted_27 rfl ?_
      refine X_vP (μ' := mX6_get) [.int i4, .int 4] [] kL_RX8_98 kM_X6_get rv_12 rfl rfl rfl dX8_isPermitted_28 h (fun _ hv => x_X6_get xT_12 hv) (fun v4 h => ?_)
      refine X_if_ne 110 dX8_isPermitted_31 (by decide) h (fun h => ?_) (fun h => ?_)
      · exact x_X8_isPermitted_110 ih h
      · refine X_aload_n (x := 0) dX8_isPermitted_34 rfl ?_
        refine X_get (v := .ref 1) kF_RX8_10 sh_0 rfl rfl dX8_isPermitted_35 ?_
        refine X_get (v := .ref 12) kF_RX8_138 sh_1 rfl rfl dX8_isPermitted_38 ?_
        refine X_iload (x := i4) dX8_isPermitted_41 rfl ?_
        refine X_iconst 0 dX8_isPermitted_43 rfl ?_
        refine X_vP (μ' := mX6_get) [.int i4, .int 0] [] kL_RX8_98 kM_X6_get rv_12 rfl rfl rfl dX8_isPermitted_44 h (fun _ hv => x_X6_get xT_12 hv) (fun v5 h => ?_)
        refine X_iload_n (x := i1) dX8_isPermitted_47 rfl ?_
        refine X_icmp_ne 110 dX8_isPermitted_48 (by decide) h (fun h => ?_) (fun h => ?_)
        · exact x_X8_isPermitted_110 ih h
        · refine X_aload_n (x := 0) dX8_isPermitted_51 rfl ?_
          refine X_get (v := .ref 1) kF_RX8_10 sh_0 rfl rfl dX8_isPermitted_52 ?_
          refine X_get (v := .ref 12) kF_RX8_138 sh_1 rfl rfl dX8_isPermitted_55 ?_
          refine X_iload (x := i4) dX8_isPermitted_58 rfl ?_
          refine X_iconst 1 dX8_isPermitted_60 rfl ?_
          refine X_vP (μ' := mX6_get) [.int i4, .int 1] [] kL_RX8_98 kM_X6_get rv_12 rfl rfl rfl dX8_isPermitted_61 h (fun _ hv => x_X6_get xT_12 hv) (fun v6 h => ?_)
          refine X_iload_n (x := i2) dX8_isPermitted_64 rfl ?_
          refine X_icmp_ne 110 dX8_isPermitted_65 (by decide) h (fun h => ?_) (fun h => ?_)
          · exact x_X8_isPermitted_110 ih h
          · refine X_aload_n (x := 0) dX8_isPermitted_68 rfl ?_
            refine X_get (v := .ref 1) kF_RX8_10 sh_0 rfl rfl dX8_isPermitted_69 ?_
            refine X_get (v := .ref 12) kF_RX8_138 sh_1 rfl rfl dX8_isPermitted_72 ?_
            refine X_iload (x := i4) dX8_isPermitted_75 rfl ?_
            refine X_iconst 2 dX8_isPermitted_77 rfl ?_
            refine X_vP (μ' := mX6_get) [.int i4, .int 2] [] kL_RX8_98 kM_X6_get rv_12 rfl rfl rfl dX8_isPermitted_78 h (fun _ hv => x_X6_get xT_12 hv) (fun v7 h => ?_)
            refine X_iload_n (x := i3) dX8_isPermitted_81 rfl ?_
            refine X_icmp_lt 110 dX8_isPermitted_82 (by decide) h (fun h => ?_) (fun h => ?_)
            · exact x_X8_isPermitted_110 ih h
            · refine X_aload_n (x := 0) dX8_isPermitted_85 rfl ?_
              refine X_get (v := .ref 1) kF_RX8_10 sh_0 rfl rfl dX8_isPermitted_86 ?_
              refine X_get (v := .ref 12) kF_RX8_138 sh_1 rfl rfl dX8_isPermitted_89 ?_
              refine X_iload (x := i4) dX8_isPermitted_92 rfl ?_
              refine X_iconst 3 dX8_isPermitted_94 rfl ?_
              refine X_vP (μ' := mX6_get) [.int i4, .int 3] [] kL_RX8_98 kM_X6_get rv_12 rfl rfl rfl dX8_isPermitted_95 h (fun _ hv => x_X6_get xT_12 hv) (fun v8 h => ?_)
              refine X_aload_n (x := 0) dX8_isPermitted_98 rfl ?_
              refine X_get (v := .ref 1) kF_RX8_10 sh_0 rfl rfl dX8_isPermitted_99 ?_
              refine X_get (v := .int (M 1 8)) kF_RX8_151 sh_1 rfl rfl dX8_isPermitted_102 ?_
              refine X_icmp_lt 110 dX8_isPermitted_105 (by decide) h (fun h => ?_) (fun h => ?_)
              · exact x_X8_isPermitted_110 ih h
              · refine X_iconst 1 dX8_isPermitted_108 rfl ?_
                exact X_retLP (by decide) dX8_isPermitted_109 rfl (Nat.le_refl _) (Nat.le_refl _) h
def f_X8_isPermitted (M : xM) (a1 a2 a3 : Int32) : Option Int32 :=
  xl (0 : Int32) fun v9 =>
  f_X8_isPermitted_3 M xFU a1 a2 a3 v9
set_option maxHeartbeats 1000000 in
theorem x_X8_isPermitted {ξ : xX} {M : xM} {a1 a2 a3 : Int32} {z : Int32} (h : f_X8_isPermitted M a1 a2 a3 = some z) : X ξ mX8_isPermitted 0 [.ref 0, .int a1, .int a2, .int a3] [] SH M 0 0 (xr (some (.int z)) SH M) := by
  rw [f_X8_isPermitted] at h
  refine X_iconst 0 dX8_isPermitted_0 rfl ?_
  refine X_istoreL (fun v9 => [.ref 0, .int a1, .int a2, .int a3, .int v9]) dX8_isPermitted_1 (Nat.le_of_ble_eq_true rfl) (Nat.le_of_ble_eq_true rfl) (xcat1_of rfl) h (fun _ => rfl) (fun v9 h => ?_)
  exact x_X8_isPermitted_3 _ _ _ _ _ _ h
def f_X8_partsLacking_76 (M : xM) (k6 : Int32 → Int32 → Int32 → Int32 → Int32 → Int32 → Int32 → Option Int32) (i1 : Int32) (i2 : Int32) (i3 : Int32) (i4 : Int32) (i5 : Int32) (i6 : Int32) (i7 : Int32) (i8 : Int32) : Option Int32 :=
  xl (i7 + 1) fun v6 =>
  k6 i1 i2 i3 i4 i5 i6 v6
set_option maxHeartbeats 1000000 in
theorem x_X8_partsLacking_76 {ξ : xX} {M : xM} {k6 : Int32 → Int32 → Int32 → Int32 → Int32 → Int32 → Int32 → Option Int32} {i1 : Int32} {i2 : Int32} {i3 : Int32} {i4 : Int32} {i5 : Int32} {i6 : Int32} {i7 : Int32} {i8 : Int32} (hk6 : ∀ (j1 j2 j3 j4 j5 j6 j7 : Int32) (z : Int32), k6 j1 j2 j3 j4 j5 j6 j7 = some z → X ξ mX8_partsLacking 6 [.ref 0, .int j1, .int j2, .int j3, .int j4, .int j5, .int j6, .int j7] [] SH M 0 0 (xr (some (.int z)) SH M)) {z : Int32} (h : f_X8_partsLacking_76 M k6 i1 i2 i3 i4 i5 i6 i7 i8 = some z) : X ξ mX8_partsLacking 76 [.ref 0, .int i1, .int i2, .int i3, .int i4, .int i5, .int i6, .int i7, .int i8] [] SH M 0 0 (xr (some (.int z)) SH M) := by
  rw [f_X8_partsLacking_76] at h
  refine X_iincL (x := i7) 1 (fun v6 => [.ref 0, .int i1, .int i2, .int i3, .int i4, .int i5, .int i6, .int v6, .int i8]) dX8_partsLacking_76 rfl rfl (Nat.le_of_ble_eq_true rfl) (xcat1_of rfl) h (fun _ => rfl) (fun v6 h => ?_)
  refine X_goto 6 dX8_partsLacking_79 (by decide) ?_
  refine X_cut 8 ?_
  exact hk6 _ _ _ _ _ _ _ _ h
def f_X8_partsLacking_6 (M : xM) : Nat → Int32 → Int32 → Int32 → Int32 → Int32 → Int32 → Int32 → Option Int32
  | 0, _, _, _, _, _, _, _ => none
  | fu + 1, i1, i2, i3, i4, i5, i6, i7 =>
    xb (f_X6_get 6 7 96 M i2 5) fun v7 =>
    if v7 ≤ i7 then (
      some i6)
    else (
      xb (f_X8_rowOfPart i2 i7) fun v8 =>
      xl v8 fun v9 =>
      xb (f_X8_boundSeconds M v9 i1 i3 i4) fun v10 =>
      if v10 ≤ 0 then (
        f_X8_partsLacking_76 M (f_X8_partsLacking_6 M fu) i1 i2 i3 i4 i5 i6 i7 v9)
      else (
        xb (f_X6_get 8 9 256 M v9 2) fun v11 =>
        xb (f_X8_isPermitted M v11 i1 i5) fun v12 =>
        if v12 = 0 then (
          xl (i6 ||| ((1 : Int32) <<< ((i7 : Int32) &&& 31))) fun v13 =>
          f_X8_partsLacking_76 M (f_X8_partsLacking_6 M fu) i1 i2 i3 i4 i5 v13 i7 v9)
        else (
          f_X8_partsLacking_76 M (f_X8_partsLacking_6 M fu) i1 i2 i3 i4 i5 i6 i7 v9)))
set_option maxHeartbeats 1000000 in
theorem x_X8_partsLacking_6 {ξ : xX} {M : xM} : ∀ (fu : Nat) (i1 i2 i3 i4 i5 i6 i7 : Int32) (z : Int32), f_X8_partsLacking_6 M fu i1 i2 i3 i4 i5 i6 i7 = some z → X ξ mX8_partsLacking 6 [.ref 0, .int i1, .int i2, .int i3, .int i4, .int i5, .int i6, .int i7] [] SH M 0 0 (xr (some (.int z)) SH M) := by
  intro fu
  induction fu with
  | zero => intro i1 i2 i3 i4 i5 i6 i7 z h; rw [f_X8_partsLacking_6] at h; cases h
  | succ fu ih =>
    intro i1 i2 i3 i4 i5 i6 i7 z h
    rw [f_X8_partsLacking_6] at h
    refine X_iload (x := i7) dX8_partsLacking_6 rfl ?_
    refine X_aload_n (x := 0) dX8_partsLacking_8 rfl ?_
    refine X_get (v := .ref 1) kF_RX8_10 sh_0 rfl rfl dX8_partsLacking_9 ?_
    refine X_get (v := .ref 6) kF_RX8_109 sh_1 rfl rfl dX8_partsLacking_12 ?_
    refine X_iload_n (x := i2) dX8_partsLacking_15 rfl ?_
    refine X_iconst 5 dX8_partsLacking_16 rfl ?_
    refine X_vP (μ' := mX6_get) [.int i2, .int 5] [.int i7] kL_RX8_98 kM_X6_get rv_6 rfl rfl rfl dX8_partsLacking_17 h (fun _ hv => x_X6_get xT_6 hv) (fun v7 h => ?_)
    refine X_icmp_ge 82 dX8_partsLacking_20 (by decide) h (fun h => ?_) (fun h => ?_)
    · refine X_iload (x := i6) dX8_partsLacking_82 rfl ?_
      exact X_retP dX8_partsLacking_84 rfl (Nat.le_refl _) (Nat.le_refl _) h
    · refine X_iload_n (x := i2) dX8_partsLacking_23 rfl ?_
      refine X_iload (x := i7) dX8_partsLacking_24 rfl ?_
      refine X_sP (μ' := mX8_rowOfPart) [.int i2, .int i7] [] kL_RX8_125 kM_X8_rowOfPart rfl rfl rfl dX8_partsLacking_26 h (fun _ hv => x_X8_rowOfPart hv) (fun v8 h => ?_)
      refine X_istoreL (fun v9 => [.ref 0, .int i1, .int i2, .int i3, .int i4, .int i5, .int i6, .int i7, .int v9]) dX8_partsLacking_29 (Nat.le_of_ble_eq_true rfl) (Nat.le_of_ble_eq_true rfl) (xcat1_of rfl) h (fun _ => rfl) (fun v9 h => ?_)
      refine X_aload_n (x := 0) dX8_partsLacking_31 rfl ?_
      refine X_iload (x := v9) dX8_partsLacking_32 rfl ?_
      refine X_iload_n (x := i1) dX8_partsLacking_34 rfl ?_
      refine X_iload_n (x := i3) dX8_partsLacking_35 rfl ?_
      refine X_iload (x := i4) dX8_partsLacking_36 rfl ?_
      refine X_vP (μ' := mX8_boundSeconds) [.int v9, .int i1, .int i3, .int i4] [] kL_RX8_338 kM_X8_boundSeconds rv_0 rfl rfl rfl dX8_partsLacking_38 h (fun _ hv => x_X8_boundSeconds hv) (fun v10 h => ?_)
      refine X_if_le 76 dX8_partsLacking_41 (by decide) h (fun h => ?_) (fun h => ?_)
      · exact x_X8_partsLacking_76 ih h
      · refine X_aload_n (x := 0) dX8_partsLacking_44 rfl ?_
        refine X_aload_n (x := 0) dX8_partsLacking_45 rfl ?_
        refine X_get (v := .ref 1) kF_RX8_10 sh_0 rfl rfl dX8_partsLacking_46 ?_
        refine X_get (v := .ref 8) kF_RX8_128 sh_1 rfl rfl dX8_partsLacking_49 ?_
        refine X_iload (x := v9) dX8_partsLacking_52 rfl ?_
        refine X_iconst 2 dX8_partsLacking_54 rfl ?_
        refine X_vP (μ' := mX6_get) [.int v9, .int 2] [.ref 0] kL_RX8_98 kM_X6_get rv_8 rfl rfl rfl dX8_partsLacking_55 h (fun _ hv => x_X6_get xT_8 hv) (fun v11 h => ?_)
        refine X_iload_n (x := i1) dX8_partsLacking_58 rfl ?_
        refine X_iload (x := i5) dX8_partsLacking_59 rfl ?_
        refine X_vP (μ' := mX8_isPermitted) [.int v11, .int i1, .int i5] [] kL_RX8_341 kM_X8_isPermitted rv_0 rfl rfl rfl dX8_partsLacking_61 h (fun _ hv => x_X8_isPermitted hv) (fun v12 h => ?_)
        refine X_if_ne 76 dX8_partsLacking_64 (by decide) h (fun h => ?_) (fun h => ?_)
        · exact x_X8_partsLacking_76 ih h
        · refine X_iload (x := i6) dX8_partsLacking_67 rfl ?_
          refine X_iconst 1 dX8_partsLacking_69 rfl ?_
          refine X_iload (x := i7) dX8_partsLacking_70 rfl ?_
          refine X_ishl dX8_partsLacking_72 ?_
          refine X_ior dX8_partsLacking_73 ?_
          refine X_istoreL (fun v13 => [.ref 0, .int i1, .int i2, .int i3, .int i4, .int i5, .int v13, .int i7, .int v9]) dX8_partsLacking_74 (Nat.le_of_ble_eq_true rfl) (Nat.le_of_ble_eq_true rfl) (xcat1_of rfl) h (fun _ => rfl) (fun v13 h => ?_)
          exact x_X8_partsLacking_76 ih h
def f_X8_partsLacking (M : xM) (a1 a2 a3 a4 a5 : Int32) : Option Int32 :=
  xl (0 : Int32) fun v14 =>
  xl (0 : Int32) fun v15 =>
  f_X8_partsLacking_6 M xFU a1 a2 a3 a4 a5 v14 v15
set_option maxHeartbeats 1000000 in
theorem x_X8_partsLacking {ξ : xX} {M : xM} {a1 a2 a3 a4 a5 : Int32} {z : Int32} (h : f_X8_partsLacking M a1 a2 a3 a4 a5 = some z) : X ξ mX8_partsLacking 0 [.ref 0, .int a1, .int a2, .int a3, .int a4, .int a5] [] SH M 0 0 (xr (some (.int z)) SH M) := by
  rw [f_X8_partsLacking] at h
  refine X_iconst 0 dX8_partsLacking_0 rfl ?_
  refine X_istoreL (fun v14 => [.ref 0, .int a1, .int a2, .int a3, .int a4, .int a5, .int v14]) dX8_partsLacking_1 (Nat.le_of_ble_eq_true rfl) (Nat.le_of_ble_eq_true rfl) (xcat1_of rfl) h (fun _ => rfl) (fun v14 h => ?_)
  refine X_iconst 0 dX8_partsLacking_3 rfl ?_
  refine X_istoreL (fun v15 => [.ref 0, .int a1, .int a2, .int a3, .int a4, .int a5, .int v14, .int v15]) dX8_partsLacking_4 (Nat.le_of_ble_eq_true rfl) (Nat.le_of_ble_eq_true rfl) (xcat1_of rfl) h (fun _ => rfl) (fun v15 h => ?_)
  exact x_X8_partsLacking_6 _ _ _ _ _ _ _ _ _ h
def f_X8_refusalOfAnswer (M : xM) (a1 : Int32) : Option Int32 :=
  xb (f_X8_isOpen M a1) fun v4 =>
  if v4 = 0 then (
    some 6)
  else (
    xb (f_X6_get 14 15 160 M a1 2) fun v5 =>
    xl v5 fun v6 =>
    xb (f_X8_findBestPass M v6) fun v7 =>
    xl v7 fun v8 =>
    if 0 ≤ v8 then (
      xb (f_X8_qualityInPass M v8 v6) fun v9 =>
      xb (f_X6_get 14 15 160 M a1 6) fun v10 =>
      if v10 ≤ v9 then (
        xb (f_X6_get 14 15 160 M a1 1) fun v11 =>
        xb (f_X6_get 14 15 160 M a1 3) fun v12 =>
        xb (f_X6_get 14 15 160 M a1 4) fun v13 =>
        xb (f_X6_get 14 15 160 M a1 5) fun v14 =>
        xb (f_X8_partsLacking M v11 v6 v12 v13 v14) fun v15 =>
        xl v15 fun v16 =>
        if v16 = 0 then (
          some 0)
        else (
          some 9))
      else (
        some 8))
    else (
      some 7))
set_option maxHeartbeats 1000000 in
theorem x_X8_refusalOfAnswer {ξ : xX} {M : xM} {a1 : Int32} {z : Int32} (h : f_X8_refusalOfAnswer M a1 = some z) : X ξ mX8_refusalOfAnswer 0 [.ref 0, .int a1] [] SH M 0 0 (xr (some (.int z)) SH M) := by
  rw [f_X8_refusalOfAnswer] at h
  refine X_aload_n (x := 0) dX8_refusalOfAnswer_0 rfl ?_
  refine X_iload_n (x := a1) dX8_refusalOfAnswer_1 rfl ?_
  refine X_vP (μ' := mX8_isOpen) [.int a1] [] kL_RX8_160 kM_X8_isOpen rv_0 rfl rfl rfl dX8_refusalOfAnswer_2 h (fun _ hv => x_X8_isOpen hv) (fun v4 h => ?_)
  refine X_if_ne 11 dX8_refusalOfAnswer_5 (by decide) h (fun h => ?_) (fun h => ?_)
  · refine X_aload_n (x := 0) dX8_refusalOfAnswer_11 rfl ?_
    refine X_get (v := .ref 1) kF_RX8_10 sh_0 rfl rfl dX8_refusalOfAnswer_12 ?_
    refine X_get (v := .ref 14) kF_RX8_148 sh_1 rfl rfl dX8_refusalOfAnswer_15 ?_
    refine X_iload_n (x := a1) dX8_refusalOfAnswer_18 rfl ?_
    refine X_iconst 2 dX8_refusalOfAnswer_19 rfl ?_
    refine X_vP (μ' := mX6_get) [.int a1, .int 2] [] kL_RX8_98 kM_X6_get rv_14 rfl rfl rfl dX8_refusalOfAnswer_20 h (fun _ hv => x_X6_get xT_14 hv) (fun v5 h => ?_)
    refine X_istoreL_n (fun v6 => [.ref 0, .int a1, .int v6]) dX8_refusalOfAnswer_23 (Nat.le_of_ble_eq_true rfl) (Nat.le_of_ble_eq_true rfl) (xcat1_of rfl) h (fun _ => rfl) (fun v6 h => ?_)
    refine X_aload_n (x := 0) dX8_refusalOfAnswer_24 rfl ?_
    refine X_iload_n (x := v6) dX8_refusalOfAnswer_25 rfl ?_
    refine X_vP (μ' := mX8_findBestPass) [.int v6] [] kL_RX8_224 kM_X8_findBestPass rv_0 rfl rfl rfl dX8_refusalOfAnswer_26 h (fun _ hv => x_X8_findBestPass hv) (fun v7 h => ?_)
    refine X_istoreL_n (fun v8 => [.ref 0, .int a1, .int v6, .int v8]) dX8_refusalOfAnswer_29 (Nat.le_of_ble_eq_true rfl) (Nat.le_of_ble_eq_true rfl) (xcat1_of rfl) h (fun _ => rfl) (fun v8 h => ?_)
    refine X_iload_n (x := v8) dX8_refusalOfAnswer_30 rfl ?_
    refine X_if_ge 37 dX8_refusalOfAnswer_31 (by decide) h (fun h => ?_) (fun h => ?_)
    · refine X_aload_n (x := 0) dX8_refusalOfAnswer_37 rfl ?_
      refine X_iload_n (x := v8) dX8_refusalOfAnswer_38 rfl ?_
      refine X_iload_n (x := v6) dX8_refusalOfAnswer_39 rfl ?_
      refine X_vP (μ' := mX8_qualityInPass) [.int v8, .int v6] [] kL_RX8_221 kM_X8_qualityInPass rv_0 rfl rfl rfl dX8_refusalOfAnswer_40 h (fun _ hv => x_X8_qualityInPass hv) (fun v9 h => ?_)
      refine X_aload_n (x := 0) dX8_refusalOfAnswer_43 rfl ?_
      refine X_get (v := .ref 1) kF_RX8_10 sh_0 rfl rfl dX8_refusalOfAnswer_44 ?_
      refine X_get (v := .ref 14) kF_RX8_148 sh_1 rfl rfl dX8_refusalOfAnswer_47 ?_
      refine X_iload_n (x := a1) dX8_refusalOfAnswer_50 rfl ?_
      refine X_bipush 6 dX8_refusalOfAnswer_51 rfl ?_
      refine X_vP (μ' := mX6_get) [.int a1, .int 6] [.int v9] kL_RX8_98 kM_X6_get rv_14 rfl rfl rfl dX8_refusalOfAnswer_53 h (fun _ hv => x_X6_get xT_14 hv) (fun v10 h => ?_)
      refine X_icmp_ge 62 dX8_refusalOfAnswer_56 (by decide) h (fun h => ?_) (fun h => ?_)
      · refine X_aload_n (x := 0) dX8_refusalOfAnswer_62 rfl ?_
        refine X_aload_n (x := 0) dX8_refusalOfAnswer_63 rfl ?_
        refine X_get (v := .ref 1) kF_RX8_10 sh_0 rfl rfl dX8_refusalOfAnswer_64 ?_
        refine X_get (v := .ref 14) kF_RX8_148 sh_1 rfl rfl dX8_refusalOfAnswer_67 ?_
        refine X_iload_n (x := a1) dX8_refusalOfAnswer_70 rfl ?_
        refine X_iconst 1 dX8_refusalOfAnswer_71 rfl ?_
        refine X_vP (μ' := mX6_get) [.int a1, .int 1] [.ref 0] kL_RX8_98 kM_X6_get rv_14 rfl rfl rfl dX8_refusalOfAnswer_72 h (fun _ hv => x_X6_get xT_14 hv) (fun v11 h => ?_)
        refine X_iload_n (x := v6) dX8_refusalOfAnswer_75 rfl ?_
        refine X_aload_n (x := 0) dX8_refusalOfAnswer_76 rfl ?_
        refine X_get (v := .ref 1) kF_RX8_10 sh_0 rfl rfl dX8_refusalOfAnswer_77 ?_
        refine X_get (v := .ref 14) kF_RX8_148 sh_1 rfl rfl dX8_refusalOfAnswer_80 ?_
        refine X_iload_n (x := a1) dX8_refusalOfAnswer_83 rfl ?_
        refine X_iconst 3 dX8_refusalOfAnswer_84 rfl ?_
        refine X_vP (μ' := mX6_get) [.int a1, .int 3] [.int v6, .int v11, .ref 0] kL_RX8_98 kM_X6_get rv_14 rfl rfl rfl dX8_refusalOfAnswer_85 h (fun _ hv => x_X6_get xT_14 hv) (fun v12 h => ?_)
        refine X_aload_n (x := 0) dX8_refusalOfAnswer_88 rfl ?_
        refine X_get (v := .ref 1) kF_RX8_10 sh_0 rfl rfl dX8_refusalOfAnswer_89 ?_
        refine X_get (v := .ref 14) kF_RX8_148 sh_1 rfl rfl dX8_refusalOfAnswer_92 ?_
        refine X_iload_n (x := a1) dX8_refusalOfAnswer_95 rfl ?_
        refine X_iconst 4 dX8_refusalOfAnswer_96 rfl ?_
        refine X_vP (μ' := mX6_get) [.int a1, .int 4] [.int v12, .int v6, .int v11, .ref 0] kL_RX8_98 kM_X6_get rv_14 rfl rfl rfl dX8_refusalOfAnswer_97 h (fun _ hv => x_X6_get xT_14 hv) (fun v13 h => ?_)
        refine X_aload_n (x := 0) dX8_refusalOfAnswer_100 rfl ?_
        refine X_get (v := .ref 1) kF_RX8_10 sh_0 rfl rfl dX8_refusalOfAnswer_101 ?_
        refine X_get (v := .ref 14) kF_RX8_148 sh_1 rfl rfl dX8_refusalOfAnswer_104 ?_
        refine X_iload_n (x := a1) dX8_refusalOfAnswer_107 rfl ?_
        refine X_iconst 5 dX8_refusalOfAnswer_108 rfl ?_
        refine X_vP (μ' := mX6_get) [.int a1, .int 5] [.int v13, .int v12, .int v6, .int v11, .ref 0] kL_RX8_98 kM_X6_get rv_14 rfl rfl rfl dX8_refusalOfAnswer_109 h (fun _ hv => x_X6_get xT_14 hv) (fun v14 h => ?_)
        refine X_vP (μ' := mX8_partsLacking) [.int v11, .int v6, .int v12, .int v13, .int v14] [] kL_RX8_227 kM_X8_partsLacking rv_0 rfl rfl rfl dX8_refusalOfAnswer_112 h (fun _ hv => x_X8_partsLacking hv) (fun v15 h => ?_)
        refine X_istoreL (fun v16 => [.ref 0, .int a1, .int v6, .int v8, .int v16]) dX8_refusalOfAnswer_115 (Nat.le_of_ble_eq_true rfl) (Nat.le_of_ble_eq_true rfl) (xcat1_of rfl) h (fun _ => rfl) (fun v16 h => ?_)
        refine X_iload (x := v16) dX8_refusalOfAnswer_117 rfl ?_
        refine X_if_eq 127 dX8_refusalOfAnswer_119 (by decide) h (fun h => ?_) (fun h => ?_)
        · refine X_iconst 0 dX8_refusalOfAnswer_127 rfl ?_
          exact X_retP dX8_refusalOfAnswer_128 rfl (Nat.le_refl _) (Nat.le_refl _) h
        · refine X_bipush 9 dX8_refusalOfAnswer_122 rfl ?_
          refine X_goto 128 dX8_refusalOfAnswer_124 (by decide) ?_
          exact X_retP dX8_refusalOfAnswer_128 rfl (Nat.le_refl _) (Nat.le_refl _) h
      · refine X_bipush 8 dX8_refusalOfAnswer_59 rfl ?_
        exact X_retP dX8_refusalOfAnswer_61 rfl (Nat.le_refl _) (Nat.le_refl _) h
    · refine X_bipush 7 dX8_refusalOfAnswer_34 rfl ?_
      exact X_retP dX8_refusalOfAnswer_36 rfl (Nat.le_refl _) (Nat.le_refl _) h
  · refine X_bipush 6 dX8_refusalOfAnswer_8 rfl ?_
    exact X_retP dX8_refusalOfAnswer_10 rfl (Nat.le_refl _) (Nat.le_refl _) h
def f_X8_priceOfSecond (a1 : Int32) : Option Int32 :=
  if a1 = 1 then (
    some 1)
  else (
    if a1 = 2 then (
      some 3)
    else (
      some 0))
set_option maxHeartbeats 1000000 in
theorem x_X8_priceOfSecond {ξ : xX} {M : xM} {a1 : Int32} {z : Int32} (h : f_X8_priceOfSecond a1 = some z) : X ξ mX8_priceOfSecond 0 [.int a1] [] SH M 0 0 (xr (some (.int z)) SH M) := by
  rw [f_X8_priceOfSecond] at h
  refine X_iload_n (x := a1) dX8_priceOfSecond_0 rfl ?_
  by_cases e0 : a1 = 1
  · rw [if_pos e0] at h
    refine X_lsw (off := 27) 28 dX8_priceOfSecond_1 (by decide) (by rw [e0] <;> rfl) (by decide) ?_
    refine X_iconst 1 dX8_priceOfSecond_28 rfl ?_
    exact X_retP dX8_priceOfSecond_29 rfl (Nat.le_refl _) (Nat.le_refl _) h
  rw [if_neg e0] at h
  by_cases e1 : a1 = 2
  · rw [if_pos e1] at h
    refine X_lsw (off := 29) 30 dX8_priceOfSecond_1 (by decide) (by rw [e1] <;> rfl) (by decide) ?_
    refine X_iconst 3 dX8_priceOfSecond_30 rfl ?_
    exact X_retP dX8_priceOfSecond_31 rfl (Nat.le_refl _) (Nat.le_refl _) h
  rw [if_neg e1] at h
  refine X_lsw (off := 31) 32 dX8_priceOfSecond_1 (by decide) (by show Op.lookupswitch.offset [(1, 27), (2, 29)] 31 _ = _; refine (lv_osw (k := 1) e0 rfl).trans ?_; refine (lv_osw (k := 2) e1 rfl).trans ?_; rfl) (by decide) ?_
  refine X_iconst 0 dX8_priceOfSecond_32 rfl ?_
  exact X_retP dX8_priceOfSecond_33 rfl (Nat.le_refl _) (Nat.le_refl _) h
def f_X8_feeOfPart (M : xM) (a1 a2 a3 a4 a5 : Int32) : Option Int32 :=
  xb (f_X8_boundSeconds M a1 a2 a3 a4) fun v1 =>
  xb (f_X8_priceOfSecond a5) fun v2 =>
  some (v1 * v2)
set_option maxHeartbeats 1000000 in
theorem x_X8_feeOfPart {ξ : xX} {M : xM} {a1 a2 a3 a4 a5 : Int32} {z : Int32} (h : f_X8_feeOfPart M a1 a2 a3 a4 a5 = some z) : X ξ mX8_feeOfPart 0 [.ref 0, .int a1, .int a2, .int a3, .int a4, .int a5] [] SH M 0 0 (xr (some (.int z)) SH M) := by
  rw [f_X8_feeOfPart] at h
  refine X_aload_n (x := 0) dX8_feeOfPart_0 rfl ?_
  refine X_iload_n (x := a1) dX8_feeOfPart_1 rfl ?_
  refine X_iload_n (x := a2) dX8_feeOfPart_2 rfl ?_
  refine X_iload_n (x := a3) dX8_feeOfPart_3 rfl ?_
  refine X_iload (x := a4) dX8_feeOfPart_4 rfl ?_
  refine X_vP (μ' := mX8_boundSeconds) [.int a1, .int a2, .int a3, .int a4] [] kL_RX8_338 kM_X8_boundSeconds rv_0 rfl rfl rfl dX8_feeOfPart_6 h (fun _ hv => x_X8_boundSeconds hv) (fun v1 h => ?_)
  refine X_iload (x := a5) dX8_feeOfPart_9 rfl ?_
  refine X_sP (μ' := mX8_priceOfSecond) [.int a5] [.int v1] kL_RX8_344 kM_X8_priceOfSecond rfl rfl rfl dX8_feeOfPart_11 h (fun _ hv => x_X8_priceOfSecond hv) (fun v2 h => ?_)
  refine X_imul dX8_feeOfPart_14 ?_
  exact X_retP dX8_feeOfPart_15 rfl (Nat.le_refl _) (Nat.le_refl _) h
def f_X8_giveAnswer_81 : Nat → xM → Int32 → Int32 → Int32 → Int32 → Int32 → Int32 → Int32 → Int32 → Int32 → Option (Int32 × xM)
  | 0, _, _, _, _, _, _, _, _, _, _ => none
  | fu + 1, M, i1, i2, i3, i4, i5, i6, i7, i8, i9 =>
    xb (f_X6_get 6 7 96 M i3 5) fun v13 =>
    if v13 ≤ i9 then (
      xb (f_X6_add 16 17 16 M i2 1 i8) fun M14 =>
      xb (f_X6_set 14 15 160 M14 i1 0 1) fun M15 =>
      xb (f_X6_set 14 15 160 M15 i1 8 i7) fun M16 =>
      xb (f_X6_set 14 15 160 M16 i1 9 i8) fun M17 =>
      xl (xw M17 1 9 0) fun M18 =>
      some (i7, M18))
    else (
      xb (f_X8_rowOfPart i3 i9) fun v19 =>
      xl v19 fun v20 =>
      xb (f_X8_feeOfPart M v20 i2 i4 i5 i6) fun v21 =>
      xl v21 fun v22 =>
      xb (f_X6_get 8 9 256 M v20 2) fun v23 =>
      xb (f_X6_add 16 17 16 M v23 0 v22) fun M24 =>
      xl (i8 + v22) fun v25 =>
      xl (i9 + 1) fun v26 =>
      (f_X8_giveAnswer_81 fu) M24 i1 i2 i3 i4 i5 i6 i7 v25 v26)
set_option maxHeartbeats 1000000 in
theorem x_X8_giveAnswer_81 {ξ : xX} : ∀ (fu : Nat) (M : xM) (i1 i2 i3 i4 i5 i6 i7 i8 i9 : Int32) (z : (Int32 × xM)), f_X8_giveAnswer_81 fu M i1 i2 i3 i4 i5 i6 i7 i8 i9 = some z → X ξ mX8_giveAnswer 81 [.ref 0, .int i1, .int i2, .int i3, .int i4, .int i5, .int i6, .int i7, .int i8, .int i9] [] SH M 0 0 (xr (some (.int z.1)) SH z.2) := by
  intro fu
  induction fu with
  | zero => intro M i1 i2 i3 i4 i5 i6 i7 i8 i9 z h; rw [f_X8_giveAnswer_81] at h; cases h
  | succ fu ih =>
    intro M i1 i2 i3 i4 i5 i6 i7 i8 i9 z h
    rw [f_X8_giveAnswer_81] at h
    refine X_iload (x := i9) dX8_giveAnswer_81 rfl ?_
    refine X_aload_n (x := 0) dX8_giveAnswer_83 rfl ?_
    refine X_get (v := .ref 1) kF_RX8_10 sh_0 rfl rfl dX8_giveAnswer_84 ?_
    refine X_get (v := .ref 6) kF_RX8_109 sh_1 rfl rfl dX8_giveAnswer_87 ?_
    refine X_iload_n (x := i3) dX8_giveAnswer_90 rfl ?_
    refine X_iconst 5 dX8_giveAnswer_91 rfl ?_
    refine X_vP (μ' := mX6_get) [.int i3, .int 5] [.int i9] kL_RX8_98 kM_X6_get rv_6 rfl rfl rfl dX8_giveAnswer_92 h (fun _ hv => x_X6_get xT_6 hv) (fun v13 h => ?_)
    refine X_icmp_ge 160 dX8_giveAnswer_95 (by decide) h (fun h => ?_) (fun h => ?_)
    · refine X_aload_n (x := 0) dX8_giveAnswer_160 rfl ?_
      refine X_get (v := .ref 1) kF_RX8_10 sh_0 rfl rfl dX8_giveAnswer_161 ?_
      refine X_get (v := .ref 16) kF_RX8_233 sh_1 rfl rfl dX8_giveAnswer_164 ?_
      refine X_iload_n (x := i2) dX8_giveAnswer_167 rfl ?_
      refine X_iconst 1 dX8_giveAnswer_168 rfl ?_
      refine X_iload (x := i8) dX8_giveAnswer_169 rfl ?_
      refine X_vV (μ' := mX6_add) [.int i2, .int 1, .int i8] [] kL_RX8_116 kM_X6_add rv_16 rfl rfl rfl dX8_giveAnswer_171 h (fun _ hv => x_X6_add xT_16 hv) (fun M14 h => ?_)
      refine X_aload_n (x := 0) dX8_giveAnswer_174 rfl ?_
      refine X_get (v := .ref 1) kF_RX8_10 sh_0 rfl rfl dX8_giveAnswer_175 ?_
      refine X_get (v := .ref 14) kF_RX8_148 sh_1 rfl rfl dX8_giveAnswer_178 ?_
      refine X_iload_n (x := i1) dX8_giveAnswer_181 rfl ?_
      refine X_iconst 0 dX8_giveAnswer_182 rfl ?_
      refine X_iconst 1 dX8_giveAnswer_183 rfl ?_
      refine X_vV (μ' := mX6_set) [.int i1, .int 0, .int 1] [] kL_RX8_83 kM_X6_set rv_14 rfl rfl rfl dX8_giveAnswer_184 h (fun _ hv => x_X6_set xT_14 hv) (fun M15 h => ?_)
      refine X_aload_n (x := 0) dX8_giveAnswer_187 rfl ?_
      refine X_get (v := .ref 1) kF_RX8_10 sh_0 rfl rfl dX8_giveAnswer_188 ?_
      refine X_get (v := .ref 14) kF_RX8_148 sh_1 rfl rfl dX8_giveAnswer_191 ?_
      refine X_iload_n (x := i1) dX8_giveAnswer_194 rfl ?_
      refine X_bipush 8 dX8_giveAnswer_195 rfl ?_
      refine X_iload (x := i7) dX8_giveAnswer_197 rfl ?_
      refine X_vV (μ' := mX6_set) [.int i1, .int 8, .int i7] [] kL_RX8_83 kM_X6_set rv_14 rfl rfl rfl dX8_giveAnswer_199 h (fun _ hv => x_X6_set xT_14 hv) (fun M16 h => ?_)
      refine X_aload_n (x := 0) dX8_giveAnswer_202 rfl ?_
      refine X_get (v := .ref 1) kF_RX8_10 sh_0 rfl rfl dX8_giveAnswer_203 ?_
      refine X_get (v := .ref 14) kF_RX8_148 sh_1 rfl rfl dX8_giveAnswer_206 ?_
      refine X_iload_n (x := i1) dX8_giveAnswer_209 rfl ?_
      refine X_bipush 9 dX8_giveAnswer_210 rfl ?_
      refine X_iload (x := i8) dX8_giveAnswer_212 rfl ?_
      refine X_vV (μ' := mX6_set) [.int i1, .int 9, .int i8] [] kL_RX8_83 kM_X6_set rv_14 rfl rfl rfl dX8_giveAnswer_214 h (fun _ hv => x_X6_set xT_14 hv) (fun M17 h => ?_)
      refine X_aload_n (x := 0) dX8_giveAnswer_217 rfl ?_
      refine X_get (v := .ref 1) kF_RX8_10 sh_0 rfl rfl dX8_giveAnswer_218 ?_
      refine X_iconst 0 dX8_giveAnswer_221 rfl ?_
      refine X_putI kF_RX8_242 sh_1 rfl rfl rfl dX8_giveAnswer_222 h (fun M18 h => ?_)
      refine X_iload (x := i7) dX8_giveAnswer_225 rfl ?_
      exact X_retI dX8_giveAnswer_227 rfl (Nat.le_refl _) (Nat.le_refl _) h
    · refine X_iload_n (x := i3) dX8_giveAnswer_98 rfl ?_
      refine X_iload (x := i9) dX8_giveAnswer_99 rfl ?_
      refine X_sP (μ' := mX8_rowOfPart) [.int i3, .int i9] [] kL_RX8_125 kM_X8_rowOfPart rfl rfl rfl dX8_giveAnswer_101 h (fun _ hv => x_X8_rowOfPart hv) (fun v19 h => ?_)
      refine X_istoreL (fun v20 => [.ref 0, .int i1, .int i2, .int i3, .int i4, .int i5, .int i6, .int i7, .int i8, .int i9, .int v20]) dX8_giveAnswer_104 (Nat.le_of_ble_eq_true rfl) (Nat.le_of_ble_eq_true rfl) (xcat1_of rfl) h (fun _ => rfl) (fun v20 h => ?_)
      refine X_aload_n (x := 0) dX8_giveAnswer_106 rfl ?_
      refine X_iload (x := v20) dX8_giveAnswer_107 rfl ?_
      refine X_iload_n (x := i2) dX8_giveAnswer_109 rfl ?_
      refine X_iload (x := i4) dX8_giveAnswer_110 rfl ?_
      refine X_iload (x := i5) dX8_giveAnswer_112 rfl ?_
      refine X_iload (x := i6) dX8_giveAnswer_114 rfl ?_
      refine X_vP (μ' := mX8_feeOfPart) [.int v20, .int i2, .int i4, .int i5, .int i6] [] kL_RX8_301 kM_X8_feeOfPart rv_0 rfl rfl rfl dX8_giveAnswer_116 h (fun _ hv => x_X8_feeOfPart hv) (fun v21 h => ?_)
      refine X_istoreL (fun v22 => [.ref 0, .int i1, .int i2, .int i3, .int i4, .int i5, .int i6, .int i7, .int i8, .int i9, .int v20, .int v22]) dX8_giveAnswer_119 (Nat.le_of_ble_eq_true rfl) (Nat.le_of_ble_eq_true rfl) (xcat1_of rfl) h (fun _ => rfl) (fun v22 h => ?_)
      refine X_aload_n (x := 0) dX8_giveAnswer_121 rfl ?_
      refine X_get (v := .ref 1) kF_RX8_10 sh_0 rfl rfl dX8_giveAnswer_122 ?_
      refine X_get (v := .ref 16) kF_RX8_233 sh_1 rfl rfl dX8_giveAnswer_125 ?_
      refine X_aload_n (x := 0) dX8_giveAnswer_128 rfl ?_
      refine X_get (v := .ref 1) kF_RX8_10 sh_0 rfl rfl dX8_giveAnswer_129 ?_
      refine X_get (v := .ref 8) kF_RX8_128 sh_1 rfl rfl dX8_giveAnswer_132 ?_
      refine X_iload (x := v20) dX8_giveAnswer_135 rfl ?_
      refine X_iconst 2 dX8_giveAnswer_137 rfl ?_
      refine X_vP (μ' := mX6_get) [.int v20, .int 2] [.ref 16] kL_RX8_98 kM_X6_get rv_8 rfl rfl rfl dX8_giveAnswer_138 h (fun _ hv => x_X6_get xT_8 hv) (fun v23 h => ?_)
      refine X_iconst 0 dX8_giveAnswer_141 rfl ?_
      refine X_iload (x := v22) dX8_giveAnswer_142 rfl ?_
      refine X_vV (μ' := mX6_add) [.int v23, .int 0, .int v22] [] kL_RX8_116 kM_X6_add rv_16 rfl rfl rfl dX8_giveAnswer_144 h (fun _ hv => x_X6_add xT_16 hv) (fun M24 h => ?_)
      refine X_iload (x := i8) dX8_giveAnswer_147 rfl ?_
      refine X_iload (x := v22) dX8_giveAnswer_149 rfl ?_
      refine X_iadd dX8_giveAnswer_151 ?_
      refine X_istoreL (fun v25 => [.ref 0, .int i1, .int i2, .int i3, .int i4, .int i5, .int i6, .int i7, .int v25, .int i9, .int v20, .int v22]) dX8_giveAnswer_152 (Nat.le_of_ble_eq_true rfl) (Nat.le_of_ble_eq_true rfl) (xcat1_of rfl) h (fun _ => rfl) (fun v25 h => ?_)
      refine X_iincL (x := i9) 1 (fun v26 => [.ref 0, .int i1, .int i2, .int i3, .int i4, .int i5, .int i6, .int i7, .int v25, .int v26, .int v20, .int v22]) dX8_giveAnswer_154 rfl rfl (Nat.le_of_ble_eq_true rfl) (xcat1_of rfl) h (fun _ => rfl) (fun v26 h => ?_)
      refine X_goto 81 dX8_giveAnswer_157 (by decide) ?_
      refine X_cut 10 ?_
      exact ih _ _ _ _ _ _ _ _ _ _ _ h
def f_X8_giveAnswer (M : xM) (a1 : Int32) : Option (Int32 × xM) :=
  xb (f_X6_get 14 15 160 M a1 1) fun v27 =>
  xl v27 fun v28 =>
  xb (f_X6_get 14 15 160 M a1 2) fun v29 =>
  xl v29 fun v30 =>
  xb (f_X6_get 14 15 160 M a1 3) fun v31 =>
  xl v31 fun v32 =>
  xb (f_X6_get 14 15 160 M a1 4) fun v33 =>
  xl v33 fun v34 =>
  xb (f_X6_get 14 15 160 M a1 5) fun v35 =>
  xl v35 fun v36 =>
  xb (f_X8_findBestPass M v30) fun v37 =>
  xl v37 fun v38 =>
  xl (0 : Int32) fun v39 =>
  xl (0 : Int32) fun v40 =>
  f_X8_giveAnswer_81 xFU M a1 v28 v30 v32 v34 v36 v38 v39 v40
set_option maxHeartbeats 1000000 in
theorem x_X8_giveAnswer {ξ : xX} {M : xM} {a1 : Int32} {z : (Int32 × xM)} (h : f_X8_giveAnswer M a1 = some z) : X ξ mX8_giveAnswer 0 [.ref 0, .int a1] [] SH M 0 0 (xr (some (.int z.1)) SH z.2) := by
  rw [f_X8_giveAnswer] at h
  refine X_aload_n (x := 0) dX8_giveAnswer_0 rfl ?_
  refine X_get (v := .ref 1) kF_RX8_10 sh_0 rfl rfl dX8_giveAnswer_1 ?_
  refine X_get (v := .ref 14) kF_RX8_148 sh_1 rfl rfl dX8_giveAnswer_4 ?_
  refine X_iload_n (x := a1) dX8_giveAnswer_7 rfl ?_
  refine X_iconst 1 dX8_giveAnswer_8 rfl ?_
  refine X_vP (μ' := mX6_get) [.int a1, .int 1] [] kL_RX8_98 kM_X6_get rv_14 rfl rfl rfl dX8_giveAnswer_9 h (fun _ hv => x_X6_get xT_14 hv) (fun v27 h => ?_)
  refine X_istoreL_n (fun v28 => [.ref 0, .int a1, .int v28]) dX8_giveAnswer_12 (Nat.le_of_ble_eq_true rfl) (Nat.le_of_ble_eq_true rfl) (xcat1_of rfl) h (fun _ => rfl) (fun v28 h => ?_)
  refine X_aload_n (x := 0) dX8_giveAnswer_13 rfl ?_
  refine X_get (v := .ref 1) kF_RX8_10 sh_0 rfl rfl dX8_giveAnswer_14 ?_
  refine X_get (v := .ref 14) kF_RX8_148 sh_1 rfl rfl dX8_giveAnswer_17 ?_
  refine X_iload_n (x := a1) dX8_giveAnswer_20 rfl ?_
  refine X_iconst 2 dX8_giveAnswer_21 rfl ?_
  refine X_vP (μ' := mX6_get) [.int a1, .int 2] [] kL_RX8_98 kM_X6_get rv_14 rfl rfl rfl dX8_giveAnswer_22 h (fun _ hv => x_X6_get xT_14 hv) (fun v29 h => ?_)
  refine X_istoreL_n (fun v30 => [.ref 0, .int a1, .int v28, .int v30]) dX8_giveAnswer_25 (Nat.le_of_ble_eq_true rfl) (Nat.le_of_ble_eq_true rfl) (xcat1_of rfl) h (fun _ => rfl) (fun v30 h => ?_)
  refine X_aload_n (x := 0) dX8_giveAnswer_26 rfl ?_
  refine X_get (v := .ref 1) kF_RX8_10 sh_0 rfl rfl dX8_giveAnswer_27 ?_
  refine X_get (v := .ref 14) kF_RX8_148 sh_1 rfl rfl dX8_giveAnswer_30 ?_
  refine X_iload_n (x := a1) dX8_giveAnswer_33 rfl ?_
  refine X_iconst 3 dX8_giveAnswer_34 rfl ?_
  refine X_vP (μ' := mX6_get) [.int a1, .int 3] [] kL_RX8_98 kM_X6_get rv_14 rfl rfl rfl dX8_giveAnswer_35 h (fun _ hv => x_X6_get xT_14 hv) (fun v31 h => ?_)
  refine X_istoreL (fun v32 => [.ref 0, .int a1, .int v28, .int v30, .int v32]) dX8_giveAnswer_38 (Nat.le_of_ble_eq_true rfl) (Nat.le_of_ble_eq_true rfl) (xcat1_of rfl) h (fun _ => rfl) (fun v32 h => ?_)
  refine X_aload_n (x := 0) dX8_giveAnswer_40 rfl ?_
  refine X_get (v := .ref 1) kF_RX8_10 sh_0 rfl rfl dX8_giveAnswer_41 ?_
  refine X_get (v := .ref 14) kF_RX8_148 sh_1 rfl rfl dX8_giveAnswer_44 ?_
  refine X_iload_n (x := a1) dX8_giveAnswer_47 rfl ?_
  refine X_iconst 4 dX8_giveAnswer_48 rfl ?_
  refine X_vP (μ' := mX6_get) [.int a1, .int 4] [] kL_RX8_98 kM_X6_get rv_14 rfl rfl rfl dX8_giveAnswer_49 h (fun _ hv => x_X6_get xT_14 hv) (fun v33 h => ?_)
  refine X_istoreL (fun v34 => [.ref 0, .int a1, .int v28, .int v30, .int v32, .int v34]) dX8_giveAnswer_52 (Nat.le_of_ble_eq_true rfl) (Nat.le_of_ble_eq_true rfl) (xcat1_of rfl) h (fun _ => rfl) (fun v34 h => ?_)
  refine X_aload_n (x := 0) dX8_giveAnswer_54 rfl ?_
  refine X_get (v := .ref 1) kF_RX8_10 sh_0 rfl rfl dX8_giveAnswer_55 ?_
  refine X_get (v := .ref 14) kF_RX8_148 sh_1 rfl rfl dX8_giveAnswer_58 ?_
  refine X_iload_n (x := a1) dX8_giveAnswer_61 rfl ?_
  refine X_iconst 5 dX8_giveAnswer_62 rfl ?_
  refine X_vP (μ' := mX6_get) [.int a1, .int 5] [] kL_RX8_98 kM_X6_get rv_14 rfl rfl rfl dX8_giveAnswer_63 h (fun _ hv => x_X6_get xT_14 hv) (fun v35 h => ?_)
  refine X_istoreL (fun v36 => [.ref 0, .int a1, .int v28, .int v30, .int v32, .int v34, .int v36]) dX8_giveAnswer_66 (Nat.le_of_ble_eq_true rfl) (Nat.le_of_ble_eq_true rfl) (xcat1_of rfl) h (fun _ => rfl) (fun v36 h => ?_)
  refine X_aload_n (x := 0) dX8_giveAnswer_68 rfl ?_
  refine X_iload_n (x := v30) dX8_giveAnswer_69 rfl ?_
  refine X_vP (μ' := mX8_findBestPass) [.int v30] [] kL_RX8_224 kM_X8_findBestPass rv_0 rfl rfl rfl dX8_giveAnswer_70 h (fun _ hv => x_X8_findBestPass hv) (fun v37 h => ?_)
  refine X_istoreL (fun v38 => [.ref 0, .int a1, .int v28, .int v30, .int v32, .int v34, .int v36, .int v38]) dX8_giveAnswer_73 (Nat.le_of_ble_eq_true rfl) (Nat.le_of_ble_eq_true rfl) (xcat1_of rfl) h (fun _ => rfl) (fun v38 h => ?_)
  refine X_iconst 0 dX8_giveAnswer_75 rfl ?_
  refine X_istoreL (fun v39 => [.ref 0, .int a1, .int v28, .int v30, .int v32, .int v34, .int v36, .int v38, .int v39]) dX8_giveAnswer_76 (Nat.le_of_ble_eq_true rfl) (Nat.le_of_ble_eq_true rfl) (xcat1_of rfl) h (fun _ => rfl) (fun v39 h => ?_)
  refine X_iconst 0 dX8_giveAnswer_78 rfl ?_
  refine X_istoreL (fun v40 => [.ref 0, .int a1, .int v28, .int v30, .int v32, .int v34, .int v36, .int v38, .int v39, .int v40]) dX8_giveAnswer_79 (Nat.le_of_ble_eq_true rfl) (Nat.le_of_ble_eq_true rfl) (xcat1_of rfl) h (fun _ => rfl) (fun v40 h => ?_)
  exact x_X8_giveAnswer_81 _ _ _ _ _ _ _ _ _ _ _ _ h
def f_X8_tryAnswer_52 (M : xM) (i1 : Int32) (i2 : Int32) (i3 : Int32) : Option (Int32 × xM) :=
  xb2 (f_X8_giveAnswer M i1) fun v2 M3 =>
  some (v2, M3)
set_option maxHeartbeats 1000000 in
theorem x_X8_tryAnswer_52 {ξ : xX} {M : xM} {i1 : Int32} {i2 : Int32} {i3 : Int32} {z : (Int32 × xM)} (h : f_X8_tryAnswer_52 M i1 i2 i3 = some z) : X ξ mX8_tryAnswer 52 [.ref 0, .int i1, .int i2, .int i3] [] SH M 0 0 (xr (some (.int z.1)) SH z.2) := by
  rw [f_X8_tryAnswer_52] at h
  refine X_aload_n (x := 0) dX8_tryAnswer_52 rfl ?_
  refine X_iload_n (x := i1) dX8_tryAnswer_53 rfl ?_
  refine X_vI (μ' := mX8_giveAnswer) [.int i1] [] kL_RX8_298 kM_X8_giveAnswer rv_0 rfl rfl rfl dX8_tryAnswer_54 h (fun _ hv => x_X8_giveAnswer hv) (fun v2 M3 h => ?_)
  exact X_retI dX8_tryAnswer_57 rfl (Nat.le_refl _) (Nat.le_refl _) h
def f_X8_tryAnswer (M : xM) (a1 a2 : Int32) : Option (Int32 × xM) :=
  xb (f_X6_has 14 15 160 M a1) fun v4 =>
  if v4 = 0 then (
    some ((-1), M))
  else (
    xb (f_X8_refusalOfAnswer M a1) fun v5 =>
    xl v5 fun v6 =>
    if v6 = 0 then (
      if a2 = 0 then (
        f_X8_tryAnswer_52 M a1 a2 v6)
      else (
        xb (f_X1_keep M) fun M7 =>
        f_X8_tryAnswer_52 M7 a1 a2 v6))
    else (
      xl (xw M 1 9 v6) fun M8 =>
      some ((-5), M8)))
set_option maxHeartbeats 1000000 in
theorem x_X8_tryAnswer {ξ : xX} {M : xM} {a1 a2 : Int32} {z : (Int32 × xM)} (h : f_X8_tryAnswer M a1 a2 = some z) : X ξ mX8_tryAnswer 0 [.ref 0, .int a1, .int a2] [] SH M 0 0 (xr (some (.int z.1)) SH z.2) := by
  rw [f_X8_tryAnswer] at h
  refine X_aload_n (x := 0) dX8_tryAnswer_0 rfl ?_
  refine X_get (v := .ref 1) kF_RX8_10 sh_0 rfl rfl dX8_tryAnswer_1 ?_
  refine X_get (v := .ref 14) kF_RX8_148 sh_1 rfl rfl dX8_tryAnswer_4 ?_
  refine X_iload_n (x := a1) dX8_tryAnswer_7 rfl ?_
  refine X_vP (μ' := mX6_has) [.int a1] [] kL_RX8_94 kM_X6_has rv_14 rfl rfl rfl dX8_tryAnswer_8 h (fun _ hv => x_X6_has xT_14 hv) (fun v4 h => ?_)
  refine X_if_ne 16 dX8_tryAnswer_11 (by decide) h (fun h => ?_) (fun h => ?_)
  · refine X_aload_n (x := 0) dX8_tryAnswer_16 rfl ?_
    refine X_iload_n (x := a1) dX8_tryAnswer_17 rfl ?_
    refine X_vP (μ' := mX8_refusalOfAnswer) [.int a1] [] kL_RX8_295 kM_X8_refusalOfAnswer rv_0 rfl rfl rfl dX8_tryAnswer_18 h (fun _ hv => x_X8_refusalOfAnswer hv) (fun v5 h => ?_)
    refine X_istoreL_n (fun v6 => [.ref 0, .int a1, .int a2, .int v6]) dX8_tryAnswer_21 (Nat.le_of_ble_eq_true rfl) (Nat.le_of_ble_eq_true rfl) (xcat1_of rfl) h (fun _ => rfl) (fun v6 h => ?_)
    refine X_iload_n (x := v6) dX8_tryAnswer_22 rfl ?_
    refine X_if_eq 37 dX8_tryAnswer_23 (by decide) h (fun h => ?_) (fun h => ?_)
    · refine X_iload_n (x := a2) dX8_tryAnswer_37 rfl ?_
      refine X_if_eq 52 dX8_tryAnswer_38 (by decide) h (fun h => ?_) (fun h => ?_)
      · exact x_X8_tryAnswer_52 h
      · refine X_aload_n (x := 0) dX8_tryAnswer_41 rfl ?_
        refine X_get (v := .ref 18) kF_RX8_19 sh_0 rfl rfl dX8_tryAnswer_42 ?_
        refine X_aload_n (x := 0) dX8_tryAnswer_45 rfl ?_
        refine X_get (v := .ref 1) kF_RX8_10 sh_0 rfl rfl dX8_tryAnswer_46 ?_
        refine X_vV (μ' := mX1_keep) [.ref 1] [] kL_RX8_75 kM_X1_keep rv_18 rfl rfl rfl dX8_tryAnswer_49 h (fun _ hv => x_X1_keep hv) (fun M7 h => ?_)
        exact x_X8_tryAnswer_52 h
    · refine X_aload_n (x := 0) dX8_tryAnswer_26 rfl ?_
      refine X_get (v := .ref 1) kF_RX8_10 sh_0 rfl rfl dX8_tryAnswer_27 ?_
      refine X_iload_n (x := v6) dX8_tryAnswer_30 rfl ?_
      refine X_putI kF_RX8_242 sh_1 rfl rfl rfl dX8_tryAnswer_31 h (fun M8 h => ?_)
      refine X_bipush (-5) dX8_tryAnswer_34 rfl ?_
      exact X_retI dX8_tryAnswer_36 rfl (Nat.le_refl _) (Nat.le_refl _) h
  · refine X_iconst (-1) dX8_tryAnswer_14 rfl ?_
    exact X_retI dX8_tryAnswer_15 rfl (Nat.le_refl _) (Nat.le_refl _) h
def f_X8_answer (M : xM) (a1 : Int32) : Option (Int32 × xM) :=
  xb2 (f_X8_tryAnswer M a1 1) fun v1 M2 =>
  some (v1, M2)
set_option maxHeartbeats 1000000 in
theorem x_X8_answer {ξ : xX} {M : xM} {a1 : Int32} {z : (Int32 × xM)} (h : f_X8_answer M a1 = some z) : X ξ mX8_answer 0 [.ref 0, .int a1] [] SH M 0 0 (xr (some (.int z.1)) SH z.2) := by
  rw [f_X8_answer] at h
  refine X_aload_n (x := 0) dX8_answer_0 rfl ?_
  refine X_iload_n (x := a1) dX8_answer_1 rfl ?_
  refine X_iconst 1 dX8_answer_2 rfl ?_
  refine X_vI (μ' := mX8_tryAnswer) [.int a1, .int 1] [] kL_RX8_163 kM_X8_tryAnswer rv_0 rfl rfl rfl dX8_answer_3 h (fun _ hv => x_X8_tryAnswer hv) (fun v1 M2 h => ?_)
  exact X_retI dX8_answer_6 rfl (Nat.le_refl _) (Nat.le_refl _) h
def f_X8_tryDays_166 (k101 : xM → Int32 → Int32 → Int32 → Int32 → Option (Int32 × xM)) (M : xM) (i1 : Int32) (i2 : Int32) (i3 : Int32) (i4 : Int32) : Option (Int32 × xM) :=
  xl (i4 + 1) fun v7 =>
  k101 M i1 i2 i3 v7
set_option maxHeartbeats 1000000 in
theorem x_X8_tryDays_166 {ξ : xX} {M : xM} {k101 : xM → Int32 → Int32 → Int32 → Int32 → Option (Int32 × xM)} {i1 : Int32} {i2 : Int32} {i3 : Int32} {i4 : Int32} (hk101 : ∀ (M : xM) (j1 j2 j3 j4 : Int32) (z : (Int32 × xM)), k101 M j1 j2 j3 j4 = some z → X ξ mX8_tryDays 101 [.ref 0, .int j1, .int j2, .int j3, .int j4] [] SH M 0 0 (xr (some (.int z.1)) SH z.2)) {z : (Int32 × xM)} (h : f_X8_tryDays_166 k101 M i1 i2 i3 i4 = some z) : X ξ mX8_tryDays 166 [.ref 0, .int i1, .int i2, .int i3, .int i4] [] SH M 0 0 (xr (some (.int z.1)) SH z.2) := by
  rw [f_X8_tryDays_166] at h
  refine X_iincL (x := i4) 1 (fun v7 => [.ref 0, .int i1, .int i2, .int i3, .int v7]) dX8_tryDays_166 rfl rfl (Nat.le_of_ble_eq_true rfl) (xcat1_of rfl) h (fun _ => rfl) (fun v7 h => ?_)
  refine X_goto 101 dX8_tryDays_169 (by decide) ?_
  exact hk101 _ _ _ _ _ _ h
def f_X8_tryDays_101 : Nat → xM → Int32 → Int32 → Int32 → Int32 → Option (Int32 × xM)
  | 0, _, _, _, _, _ => none
  | fu + 1, M, i1, i2, i3, i4 =>
    if (M 14 2) ≤ i4 then (
      some (i3, M))
    else (
      xb (f_X8_isOpen M i4) fun v8 =>
      if v8 = 0 then (
        f_X8_tryDays_166 (f_X8_tryDays_101 fu) M i1 i2 i3 i4)
      else (
        xb (f_X6_get 14 15 160 M i4 7) fun v9 =>
        if (M 1 8) ≤ v9 then (
          f_X8_tryDays_166 (f_X8_tryDays_101 fu) M i1 i2 i3 i4)
        else (
          xb (f_X6_set 14 15 160 M i4 0 2) fun M10 =>
          xl (i3 + 1) fun v11 =>
          f_X8_tryDays_166 (f_X8_tryDays_101 fu) M10 i1 i2 v11 i4)))
set_option maxHeartbeats 1000000 in
theorem x_X8_tryDays_101 {ξ : xX} : ∀ (fu : Nat) (M : xM) (i1 i2 i3 i4 : Int32) (z : (Int32 × xM)), f_X8_tryDays_101 fu M i1 i2 i3 i4 = some z → X ξ mX8_tryDays 101 [.ref 0, .int i1, .int i2, .int i3, .int i4] [] SH M 0 0 (xr (some (.int z.1)) SH z.2) := by
  intro fu
  induction fu with
  | zero => intro M i1 i2 i3 i4 z h; rw [f_X8_tryDays_101] at h; cases h
  | succ fu ih =>
    intro M i1 i2 i3 i4 z h
    rw [f_X8_tryDays_101] at h
    refine X_iload (x := i4) dX8_tryDays_101 rfl ?_
    refine X_aload_n (x := 0) dX8_tryDays_103 rfl ?_
    refine X_get (v := .ref 1) kF_RX8_10 sh_0 rfl rfl dX8_tryDays_104 ?_
    refine X_get (v := .ref 14) kF_RX8_148 sh_1 rfl rfl dX8_tryDays_107 ?_
    refine X_get (v := .int (M 14 2)) kF_RX8_236 sh_14 rfl rfl dX8_tryDays_110 ?_
    refine X_icmp_ge 172 dX8_tryDays_113 (by decide) h (fun h => ?_) (fun h => ?_)
    · refine X_iload_n (x := i3) dX8_tryDays_172 rfl ?_
      exact X_retI dX8_tryDays_173 rfl (Nat.le_refl _) (Nat.le_refl _) h
    · refine X_aload_n (x := 0) dX8_tryDays_116 rfl ?_
      refine X_iload (x := i4) dX8_tryDays_117 rfl ?_
      refine X_vP (μ' := mX8_isOpen) [.int i4] [] kL_RX8_160 kM_X8_isOpen rv_0 rfl rfl rfl dX8_tryDays_119 h (fun _ hv => x_X8_isOpen hv) (fun v8 h => ?_)
      refine X_if_eq 166 dX8_tryDays_122 (by decide) h (fun h => ?_) (fun h => ?_)
      · exact x_X8_tryDays_166 ih h
      · refine X_aload_n (x := 0) dX8_tryDays_125 rfl ?_
        refine X_get (v := .ref 1) kF_RX8_10 sh_0 rfl rfl dX8_tryDays_126 ?_
        refine X_get (v := .ref 14) kF_RX8_148 sh_1 rfl rfl dX8_tryDays_129 ?_
        refine X_iload (x := i4) dX8_tryDays_132 rfl ?_
        refine X_bipush 7 dX8_tryDays_134 rfl ?_
        refine X_vP (μ' := mX6_get) [.int i4, .int 7] [] kL_RX8_98 kM_X6_get rv_14 rfl rfl rfl dX8_tryDays_136 h (fun _ hv => x_X6_get xT_14 hv) (fun v9 h => ?_)
        refine X_aload_n (x := 0) dX8_tryDays_139 rfl ?_
        refine X_get (v := .ref 1) kF_RX8_10 sh_0 rfl rfl dX8_tryDays_140 ?_
        refine X_get (v := .int (M 1 8)) kF_RX8_151 sh_1 rfl rfl dX8_tryDays_143 ?_
        refine X_icmp_ge 166 dX8_tryDays_146 (by decide) h (fun h => ?_) (fun h => ?_)
        · exact x_X8_tryDays_166 ih h
        · refine X_aload_n (x := 0) dX8_tryDays_149 rfl ?_
          refine X_get (v := .ref 1) kF_RX8_10 sh_0 rfl rfl dX8_tryDays_150 ?_
          refine X_get (v := .ref 14) kF_RX8_148 sh_1 rfl rfl dX8_tryDays_153 ?_
          refine X_iload (x := i4) dX8_tryDays_156 rfl ?_
          refine X_iconst 0 dX8_tryDays_158 rfl ?_
          refine X_iconst 2 dX8_tryDays_159 rfl ?_
          refine X_vV (μ' := mX6_set) [.int i4, .int 0, .int 2] [] kL_RX8_83 kM_X6_set rv_14 rfl rfl rfl dX8_tryDays_160 h (fun _ hv => x_X6_set xT_14 hv) (fun M10 h => ?_)
          refine X_iincL (x := i3) 1 (fun v11 => [.ref 0, .int i1, .int i2, .int v11, .int i4]) dX8_tryDays_163 rfl rfl (Nat.le_of_ble_eq_true rfl) (xcat1_of rfl) h (fun _ => rfl) (fun v11 h => ?_)
          exact x_X8_tryDays_166 ih h
def f_X8_tryDays_61 : Nat → xM → Int32 → Int32 → Int32 → Option (Int32 × xM)
  | 0, _, _, _, _ => none
  | fu + 1, M, i1, i2, i3 =>
    if (M 4 2) ≤ i3 then (
      xl (0 : Int32) fun v12 =>
      xl (0 : Int32) fun v13 =>
      f_X8_tryDays_101 xFU M i1 i2 v12 v13)
    else (
      xb (f_X6_set 4 5 24 M i3 4 28800) fun M14 =>
      xl (i3 + 1) fun v15 =>
      (f_X8_tryDays_61 fu) M14 i1 i2 v15)
set_option maxHeartbeats 1000000 in
theorem x_X8_tryDays_61 {ξ : xX} : ∀ (fu : Nat) (M : xM) (i1 i2 i3 : Int32) (z : (Int32 × xM)), f_X8_tryDays_61 fu M i1 i2 i3 = some z → X ξ mX8_tryDays 61 [.ref 0, .int i1, .int i2, .int i3] [] SH M 0 0 (xr (some (.int z.1)) SH z.2) := by
  intro fu
  induction fu with
  | zero => intro M i1 i2 i3 z h; rw [f_X8_tryDays_61] at h; cases h
  | succ fu ih =>
    intro M i1 i2 i3 z h
    rw [f_X8_tryDays_61] at h
    refine X_iload_n (x := i3) dX8_tryDays_61 rfl ?_
    refine X_aload_n (x := 0) dX8_tryDays_62 rfl ?_
    refine X_get (v := .ref 1) kF_RX8_10 sh_0 rfl rfl dX8_tryDays_63 ?_
    refine X_get (v := .ref 4) kF_RX8_91 sh_1 rfl rfl dX8_tryDays_66 ?_
    refine X_get (v := .int (M 4 2)) kF_RX8_236 sh_4 rfl rfl dX8_tryDays_69 ?_
    refine X_icmp_ge 96 dX8_tryDays_72 (by decide) h (fun h => ?_) (fun h => ?_)
    · refine X_iconst 0 dX8_tryDays_96 rfl ?_
      refine X_istoreL_n (fun v12 => [.ref 0, .int i1, .int i2, .int v12]) dX8_tryDays_97 (Nat.le_of_ble_eq_true rfl) (Nat.le_of_ble_eq_true rfl) (xcat1_of rfl) h (fun _ => rfl) (fun v12 h => ?_)
      refine X_iconst 0 dX8_tryDays_98 rfl ?_
      refine X_istoreL (fun v13 => [.ref 0, .int i1, .int i2, .int v12, .int v13]) dX8_tryDays_99 (Nat.le_of_ble_eq_true rfl) (Nat.le_of_ble_eq_true rfl) (xcat1_of rfl) h (fun _ => rfl) (fun v13 h => ?_)
      exact x_X8_tryDays_101 _ _ _ _ _ _ _ h
    · refine X_aload_n (x := 0) dX8_tryDays_75 rfl ?_
      refine X_get (v := .ref 1) kF_RX8_10 sh_0 rfl rfl dX8_tryDays_76 ?_
      refine X_get (v := .ref 4) kF_RX8_91 sh_1 rfl rfl dX8_tryDays_79 ?_
      refine X_iload_n (x := i3) dX8_tryDays_82 rfl ?_
      refine X_iconst 4 dX8_tryDays_83 rfl ?_
      refine X_sipush 28800 dX8_tryDays_84 rfl ?_
      refine X_vV (μ' := mX6_set) [.int i3, .int 4, .int 28800] [] kL_RX8_83 kM_X6_set rv_4 rfl rfl rfl dX8_tryDays_87 h (fun _ hv => x_X6_set xT_4 hv) (fun M14 h => ?_)
      refine X_iincL (x := i3) 1 (fun v15 => [.ref 0, .int i1, .int i2, .int v15]) dX8_tryDays_90 rfl rfl (Nat.le_of_ble_eq_true rfl) (xcat1_of rfl) h (fun _ => rfl) (fun v15 h => ?_)
      refine X_goto 61 dX8_tryDays_93 (by decide) ?_
      exact ih _ _ _ _ _ h
def f_X8_tryDays_46 (M : xM) (i1 : Int32) (i2 : Int32) : Option (Int32 × xM) :=
  xl (xw M 1 8 ((M 1 8) + i1)) fun M16 =>
  xl (0 : Int32) fun v17 =>
  f_X8_tryDays_61 xFU M16 i1 i2 v17
set_option maxHeartbeats 1000000 in
theorem x_X8_tryDays_46 {ξ : xX} {M : xM} {i1 : Int32} {i2 : Int32} {z : (Int32 × xM)} (h : f_X8_tryDays_46 M i1 i2 = some z) : X ξ mX8_tryDays 46 [.ref 0, .int i1, .int i2] [] SH M 0 0 (xr (some (.int z.1)) SH z.2) := by
  rw [f_X8_tryDays_46] at h
  refine X_aload_n (x := 0) dX8_tryDays_46 rfl ?_
  refine X_get (v := .ref 1) kF_RX8_10 sh_0 rfl rfl dX8_tryDays_47 ?_
  refine X_dup dX8_tryDays_50 rfl ?_
  refine X_get (v := .int (M 1 8)) kF_RX8_151 sh_1 rfl rfl dX8_tryDays_51 ?_
  refine X_iload_n (x := i1) dX8_tryDays_54 rfl ?_
  refine X_iadd dX8_tryDays_55 ?_
  refine X_putI kF_RX8_151 sh_1 rfl rfl rfl dX8_tryDays_56 h (fun M16 h => ?_)
  refine X_iconst 0 dX8_tryDays_59 rfl ?_
  refine X_istoreL_n (fun v17 => [.ref 0, .int i1, .int i2, .int v17]) dX8_tryDays_60 (Nat.le_of_ble_eq_true rfl) (Nat.le_of_ble_eq_true rfl) (xcat1_of rfl) h (fun _ => rfl) (fun v17 h => ?_)
  exact x_X8_tryDays_61 _ _ _ _ _ _ h
def f_X8_tryDays (M : xM) (a1 a2 : Int32) : Option (Int32 × xM) :=
  xb (f_X8_isWithin a1 1 99) fun v18 =>
  if v18 = 0 then (
    some ((-2), M))
  else (
    if ((M 1 8) + a1) ≤ 9999 then (
      if a2 = 0 then (
        f_X8_tryDays_46 M a1 a2)
      else (
        xb (f_X1_keep M) fun M19 =>
        f_X8_tryDays_46 M19 a1 a2))
    else (
      some ((-3), M)))
set_option maxHeartbeats 1000000 in
theorem x_X8_tryDays {ξ : xX} {M : xM} {a1 a2 : Int32} {z : (Int32 × xM)} (h : f_X8_tryDays M a1 a2 = some z) : X ξ mX8_tryDays 0 [.ref 0, .int a1, .int a2] [] SH M 0 0 (xr (some (.int z.1)) SH z.2) := by
  rw [f_X8_tryDays] at h
  refine X_iload_n (x := a1) dX8_tryDays_0 rfl ?_
  refine X_iconst 1 dX8_tryDays_1 rfl ?_
  refine X_bipush 99 dX8_tryDays_2 rfl ?_
  refine X_sP (μ' := mX8_isWithin) [.int a1, .int 1, .int 99] [] kL_RX8_61 kM_X8_isWithin rfl rfl rfl dX8_tryDays_4 h (fun _ hv => x_X8_isWithin hv) (fun v18 h => ?_)
  refine X_if_ne 13 dX8_tryDays_7 (by decide) h (fun h => ?_) (fun h => ?_)
  · refine X_aload_n (x := 0) dX8_tryDays_13 rfl ?_
    refine X_get (v := .ref 1) kF_RX8_10 sh_0 rfl rfl dX8_tryDays_14 ?_
    refine X_get (v := .int (M 1 8)) kF_RX8_151 sh_1 rfl rfl dX8_tryDays_17 ?_
    refine X_iload_n (x := a1) dX8_tryDays_20 rfl ?_
    refine X_iadd dX8_tryDays_21 ?_
    refine X_sipush 9999 dX8_tryDays_22 rfl ?_
    refine X_icmp_le 31 dX8_tryDays_25 (by decide) h (fun h => ?_) (fun h => ?_)
    · refine X_iload_n (x := a2) dX8_tryDays_31 rfl ?_
      refine X_if_eq 46 dX8_tryDays_32 (by decide) h (fun h => ?_) (fun h => ?_)
      · exact x_X8_tryDays_46 h
      · refine X_aload_n (x := 0) dX8_tryDays_35 rfl ?_
        refine X_get (v := .ref 18) kF_RX8_19 sh_0 rfl rfl dX8_tryDays_36 ?_
        refine X_aload_n (x := 0) dX8_tryDays_39 rfl ?_
        refine X_get (v := .ref 1) kF_RX8_10 sh_0 rfl rfl dX8_tryDays_40 ?_
        refine X_vV (μ' := mX1_keep) [.ref 1] [] kL_RX8_75 kM_X1_keep rv_18 rfl rfl rfl dX8_tryDays_43 h (fun _ hv => x_X1_keep hv) (fun M19 h => ?_)
        exact x_X8_tryDays_46 h
    · refine X_bipush (-3) dX8_tryDays_28 rfl ?_
      exact X_retI dX8_tryDays_30 rfl (Nat.le_refl _) (Nat.le_refl _) h
  · refine X_bipush (-2) dX8_tryDays_10 rfl ?_
    exact X_retI dX8_tryDays_12 rfl (Nat.le_refl _) (Nat.le_refl _) h
def f_X8_passDays (M : xM) (a1 : Int32) : Option (Int32 × xM) :=
  xb2 (f_X8_tryDays M a1 1) fun v1 M2 =>
  some (v1, M2)
set_option maxHeartbeats 1000000 in
theorem x_X8_passDays {ξ : xX} {M : xM} {a1 : Int32} {z : (Int32 × xM)} (h : f_X8_passDays M a1 = some z) : X ξ mX8_passDays 0 [.ref 0, .int a1] [] SH M 0 0 (xr (some (.int z.1)) SH z.2) := by
  rw [f_X8_passDays] at h
  refine X_aload_n (x := 0) dX8_passDays_0 rfl ?_
  refine X_iload_n (x := a1) dX8_passDays_1 rfl ?_
  refine X_iconst 1 dX8_passDays_2 rfl ?_
  refine X_vI (μ' := mX8_tryDays) [.int a1, .int 1] [] kL_RX8_167 kM_X8_tryDays rv_0 rfl rfl rfl dX8_passDays_3 h (fun _ hv => x_X8_tryDays hv) (fun v1 M2 h => ?_)
  exact X_retI dX8_passDays_6 rfl (Nat.le_refl _) (Nat.le_refl _) h
def f_X8_undo (M : xM) : Option (Int32 × xM) :=
  if (M 18 2) = 0 then (
    some ((-3), M))
  else (
    xb (f_X1_takeBack M) fun M1 =>
    some ((M1 18 2), M1))
set_option maxHeartbeats 1000000 in
theorem x_X8_undo {ξ : xX} {M : xM} {z : (Int32 × xM)} (h : f_X8_undo M = some z) : X ξ mX8_undo 0 [.ref 0] [] SH M 0 0 (xr (some (.int z.1)) SH z.2) := by
  rw [f_X8_undo] at h
  refine X_aload_n (x := 0) dX8_undo_0 rfl ?_
  refine X_get (v := .ref 18) kF_RX8_19 sh_0 rfl rfl dX8_undo_1 ?_
  refine X_get (v := .int (M 18 2)) kF_RX8_188 sh_18 rfl rfl dX8_undo_4 ?_
  refine X_if_ne 13 dX8_undo_7 (by decide) h (fun h => ?_) (fun h => ?_)
  · refine X_aload_n (x := 0) dX8_undo_13 rfl ?_
    refine X_get (v := .ref 18) kF_RX8_19 sh_0 rfl rfl dX8_undo_14 ?_
    refine X_aload_n (x := 0) dX8_undo_17 rfl ?_
    refine X_get (v := .ref 1) kF_RX8_10 sh_0 rfl rfl dX8_undo_18 ?_
    refine X_vV (μ' := mX1_takeBack) [.ref 1] [] kL_RX8_191 kM_X1_takeBack rv_18 rfl rfl rfl dX8_undo_21 h (fun _ hv => x_X1_takeBack hv) (fun M1 h => ?_)
    refine X_aload_n (x := 0) dX8_undo_24 rfl ?_
    refine X_get (v := .ref 18) kF_RX8_19 sh_0 rfl rfl dX8_undo_25 ?_
    refine X_get (v := .int (M1 18 2)) kF_RX8_188 sh_18 rfl rfl dX8_undo_28 ?_
    exact X_retI dX8_undo_31 rfl (Nat.le_refl _) (Nat.le_refl _) h
  · refine X_bipush (-3) dX8_undo_10 rfl ?_
    exact X_retI dX8_undo_12 rfl (Nat.le_refl _) (Nat.le_refl _) h
def f_X8_slotOf (M : xM) (a1 : Int32) : Option (Option Nat) :=
  if a1 = 0 then (
    some (some 105))
  else (
    if a1 = 1 then (
      some (some 123))
    else (
      some none))
set_option maxHeartbeats 1000000 in
theorem x_X8_slotOf {ξ : xX} {M : xM} {a1 : Int32} {z : (Option Nat)} (h : f_X8_slotOf M a1 = some z) : X ξ mX8_slotOf 0 [.ref 0, .int a1] [] SH M 0 0 (xr (some (va_rf z)) SH M) := by
  rw [f_X8_slotOf] at h
  refine X_iload_n (x := a1) dX8_slotOf_0 rfl ?_
  by_cases e0 : a1 = 0
  · rw [if_pos e0] at h
    refine X_lsw (off := 27) 28 dX8_slotOf_1 (by decide) (by rw [e0] <;> rfl) (by decide) ?_
    refine X_aload_n (x := 0) dX8_slotOf_28 rfl ?_
    refine X_get (v := .ref 105) kF_RX8_26 sh_0 rfl rfl dX8_slotOf_29 ?_
    exact X_retR (r := (some 105)) dX8_slotOf_32 ⟨_, rfl⟩ (Nat.le_refl _) (Nat.le_refl _) h
  rw [if_neg e0] at h
  by_cases e1 : a1 = 1
  · rw [if_pos e1] at h
    refine X_lsw (off := 32) 33 dX8_slotOf_1 (by decide) (by rw [e1] <;> rfl) (by decide) ?_
    refine X_aload_n (x := 0) dX8_slotOf_33 rfl ?_
    refine X_get (v := .ref 123) kF_RX8_30 sh_0 rfl rfl dX8_slotOf_34 ?_
    exact X_retR (r := (some 123)) dX8_slotOf_37 ⟨_, rfl⟩ (Nat.le_refl _) (Nat.le_refl _) h
  rw [if_neg e1] at h
  refine X_lsw (off := 37) 38 dX8_slotOf_1 (by decide) (by show Op.lookupswitch.offset [(0, 27), (1, 32)] 37 _ = _; refine (lv_osw (k := 0) e0 rfl).trans ?_; refine (lv_osw (k := 1) e1 rfl).trans ?_; rfl) (by decide) ?_
  refine X_null dX8_slotOf_38 ?_
  exact X_retR (r := none) dX8_slotOf_39 ⟨_, rfl⟩ (Nat.le_refl _) (Nat.le_refl _) h
def f_X8_save (M : xM) (a1 : Int32) : Option (Int32 × xM) :=
  xb (f_X8_slotOf M a1) fun r => xo r (
    some ((-1), M))
  (fun q1 => xgd (xSloB q1) <|
    xb (f_X5_copyFrom (q1 + 1) 1 M) fun M2 =>
    xl (xw M2 q1 1 1) fun M3 =>
    some ((M3 1 8), M3))
set_option maxHeartbeats 1000000 in
theorem x_X8_save {ξ : xX} {M : xM} {a1 : Int32} {z : (Int32 × xM)} (h : f_X8_save M a1 = some z) : X ξ mX8_save 0 [.ref 0, .int a1] [] SH M 0 0 (xr (some (.int z.1)) SH z.2) := by
  rw [f_X8_save] at h
  refine X_aload_n (x := 0) dX8_save_0 rfl ?_
  refine X_iload_n (x := a1) dX8_save_1 rfl ?_
  refine X_vR (μ' := mX8_slotOf) [.int a1] [] kL_RX8_194 kM_X8_slotOf rv_0 rfl rfl rfl dX8_save_2 h (fun _ hv => x_X8_slotOf hv) (fun h => ?_) (fun q1 h => ?_)
  · refine X_astore_nN [.ref 0, .int a1, .null] dX8_save_5 (Nat.le_of_ble_eq_true rfl) (Nat.le_of_ble_eq_true rfl) (xcat1_of rfl) rfl ?_
    refine X_aload_nN dX8_save_6 rfl ?_
    refine X_ifnonnullN dX8_save_7 ?_
    refine X_iconst (-1) dX8_save_10 rfl ?_
    exact X_retI dX8_save_11 rfl (Nat.le_refl _) (Nat.le_refl _) h
  · obtain ⟨hq1, h⟩ := xgd_some h
    have hq1 := xSlo_of hq1
    refine X_astore_n [.ref 0, .int a1, .ref q1] dX8_save_5 (Nat.le_of_ble_eq_true rfl) (Nat.le_of_ble_eq_true rfl) (xcat1_of rfl) rfl ?_
    refine X_aload_n (x := q1) dX8_save_6 rfl ?_
    refine X_ifnonnull 12 dX8_save_7 (by decide) ?_
    refine X_aload_n (x := q1) dX8_save_12 rfl ?_
    refine X_get (v := .ref (q1 + 1)) kF_RX8_198 hq1.1 rfl rfl dX8_save_13 ?_
    refine X_aload_n (x := 0) dX8_save_16 rfl ?_
    refine X_get (v := .ref 1) kF_RX8_10 sh_0 rfl rfl dX8_save_17 ?_
    refine X_vV (μ' := mX5_copyFrom) [.ref 1] [] kL_RX8_201 kM_X5_copyFrom ⟨_, _, _, hq1.2.1, rfl, rfl⟩ rfl rfl rfl dX8_save_20 h (fun _ hv => x_X5_copyFrom hq1.2 xSta_1 hv) (fun M2 h => ?_)
    refine X_aload_n (x := q1) dX8_save_23 rfl ?_
    refine X_iconst 1 dX8_save_24 rfl ?_
    refine X_putI kF_RX8_204 hq1.1 rfl rfl rfl dX8_save_25 h (fun M3 h => ?_)
    refine X_aload_n (x := 0) dX8_save_28 rfl ?_
    refine X_get (v := .ref 1) kF_RX8_10 sh_0 rfl rfl dX8_save_29 ?_
    refine X_get (v := .int (M3 1 8)) kF_RX8_151 sh_1 rfl rfl dX8_save_32 ?_
    exact X_retI dX8_save_35 rfl (Nat.le_refl _) (Nat.le_refl _) h
def f_X8_restore (M : xM) (a1 : Int32) : Option (Int32 × xM) :=
  xb (f_X8_slotOf M a1) fun r => xo r (
    some ((-1), M))
  (fun q1 => xgd (xSloB q1) <|
    if (M q1 1) = 0 then (
      some ((-3), M))
    else (
      xb (f_X1_keep M) fun M2 =>
      xb (f_X5_copyFrom 1 (q1 + 1) M2) fun M3 =>
      some ((M3 1 8), M3)))
set_option maxHeartbeats 1000000 in
theorem x_X8_restore {ξ : xX} {M : xM} {a1 : Int32} {z : (Int32 × xM)} (h : f_X8_restore M a1 = some z) : X ξ mX8_restore 0 [.ref 0, .int a1] [] SH M 0 0 (xr (some (.int z.1)) SH z.2) := by
  rw [f_X8_restore] at h
  refine X_aload_n (x := 0) dX8_restore_0 rfl ?_
  refine X_iload_n (x := a1) dX8_restore_1 rfl ?_
  refine X_vR (μ' := mX8_slotOf) [.int a1] [] kL_RX8_194 kM_X8_slotOf rv_0 rfl rfl rfl dX8_restore_2 h (fun _ hv => x_X8_slotOf hv) (fun h => ?_) (fun q1 h => ?_)
  · refine X_astore_nN [.ref 0, .int a1, .null] dX8_restore_5 (Nat.le_of_ble_eq_true rfl) (Nat.le_of_ble_eq_true rfl) (xcat1_of rfl) rfl ?_
    refine X_aload_nN dX8_restore_6 rfl ?_
    refine X_ifnonnullN dX8_restore_7 ?_
    refine X_iconst (-1) dX8_restore_10 rfl ?_
    exact X_retI dX8_restore_11 rfl (Nat.le_refl _) (Nat.le_refl _) h
  · obtain ⟨hq1, h⟩ := xgd_some h
    have hq1 := xSlo_of hq1
    refine X_astore_n [.ref 0, .int a1, .ref q1] dX8_restore_5 (Nat.le_of_ble_eq_true rfl) (Nat.le_of_ble_eq_true rfl) (xcat1_of rfl) rfl ?_
    refine X_aload_n (x := q1) dX8_restore_6 rfl ?_
    refine X_ifnonnull 12 dX8_restore_7 (by decide) ?_
    refine X_aload_n (x := q1) dX8_restore_12 rfl ?_
    refine X_get (v := .int (M q1 1)) kF_RX8_204 hq1.1 rfl rfl dX8_restore_13 ?_
    refine X_if_ne 22 dX8_restore_16 (by decide) h (fun h => ?_) (fun h => ?_)
    · refine X_aload_n (x := 0) dX8_restore_22 rfl ?_
      refine X_get (v := .ref 18) kF_RX8_19 sh_0 rfl rfl dX8_restore_23 ?_
      refine X_aload_n (x := 0) dX8_restore_26 rfl ?_
      refine X_get (v := .ref 1) kF_RX8_10 sh_0 rfl rfl dX8_restore_27 ?_
      refine X_vV (μ' := mX1_keep) [.ref 1] [] kL_RX8_75 kM_X1_keep rv_18 rfl rfl rfl dX8_restore_30 h (fun _ hv => x_X1_keep hv) (fun M2 h => ?_)
      refine X_aload_n (x := 0) dX8_restore_33 rfl ?_
      refine X_get (v := .ref 1) kF_RX8_10 sh_0 rfl rfl dX8_restore_34 ?_
      refine X_aload_n (x := q1) dX8_restore_37 rfl ?_
      refine X_get (v := .ref (q1 + 1)) kF_RX8_198 hq1.1 rfl rfl dX8_restore_38 ?_
      refine X_vV (μ' := mX5_copyFrom) [.ref (q1 + 1)] [] kL_RX8_201 kM_X5_copyFrom rv_1 rfl rfl rfl dX8_restore_41 h (fun _ hv => x_X5_copyFrom xSta_1 hq1.2 hv) (fun M3 h => ?_)
      refine X_aload_n (x := 0) dX8_restore_44 rfl ?_
      refine X_get (v := .ref 1) kF_RX8_10 sh_0 rfl rfl dX8_restore_45 ?_
      refine X_get (v := .int (M3 1 8)) kF_RX8_151 sh_1 rfl rfl dX8_restore_48 ?_
      exact X_retI dX8_restore_51 rfl (Nat.le_refl _) (Nat.le_refl _) h
    · refine X_bipush (-3) dX8_restore_19 rfl ?_
      exact X_retI dX8_restore_21 rfl (Nat.le_refl _) (Nat.le_refl _) h
def f_X8_look (t ct n : Nat) (M : xM) (a1 a2 a3 : Int32) : Option Int32 :=
  xb (f_X6_has t ct n M a1) fun v1 =>
  if v1 = 0 then (
    some (-1))
  else (
    xb (f_X8_isWithin a2 0 (a3 - 1)) fun v2 =>
    if v2 = 0 then (
      some (-2))
    else (
      xb (f_X6_get t ct n M a1 a2) fun v3 =>
      some v3))
set_option maxHeartbeats 1000000 in
theorem x_X8_look {ξ : xX} {t ct n : Nat} {M : xM} {a1 a2 a3 : Int32} (hT : xT t ct n) {z : Int32} (h : f_X8_look t ct n M a1 a2 a3 = some z) : X ξ mX8_look 0 [.ref t, .int a1, .int a2, .int a3] [] SH M 0 0 (xr (some (.int z)) SH M) := by
  rw [f_X8_look] at h
  refine X_aload_n (x := t) dX8_look_0 rfl ?_
  refine X_iload_n (x := a1) dX8_look_1 rfl ?_
  refine X_vP (μ' := mX6_has) [.int a1] [] kL_RX8_94 kM_X6_has ⟨_, _, _, hT.1, rfl, rfl⟩ rfl rfl rfl dX8_look_2 h (fun _ hv => x_X6_has hT hv) (fun v1 h => ?_)
  refine X_if_ne 10 dX8_look_5 (by decide) h (fun h => ?_) (fun h => ?_)
  · refine X_iload_n (x := a2) dX8_look_10 rfl ?_
    refine X_iconst 0 dX8_look_11 rfl ?_
    refine X_iload_n (x := a3) dX8_look_12 rfl ?_
    refine X_iconst 1 dX8_look_13 rfl ?_
    refine X_isub dX8_look_14 ?_
    refine X_sP (μ' := mX8_isWithin) [.int a2, .int 0, .int (a3 - 1)] [] kL_RX8_61 kM_X8_isWithin rfl rfl rfl dX8_look_15 h (fun _ hv => x_X8_isWithin hv) (fun v2 h => ?_)
    refine X_if_eq 30 dX8_look_18 (by decide) h (fun h => ?_) (fun h => ?_)
    · refine X_bipush (-2) dX8_look_30 rfl ?_
      exact X_retP dX8_look_32 rfl (Nat.le_refl _) (Nat.le_refl _) h
    · refine X_aload_n (x := t) dX8_look_21 rfl ?_
      refine X_iload_n (x := a1) dX8_look_22 rfl ?_
      refine X_iload_n (x := a2) dX8_look_23 rfl ?_
      refine X_vP (μ' := mX6_get) [.int a1, .int a2] [] kL_RX8_98 kM_X6_get ⟨_, _, _, hT.1, rfl, rfl⟩ rfl rfl rfl dX8_look_24 h (fun _ hv => x_X6_get hT hv) (fun v3 h => ?_)
      refine X_goto 32 dX8_look_27 (by decide) ?_
      exact X_retP dX8_look_32 rfl (Nat.le_refl _) (Nat.le_refl _) h
  · refine X_iconst (-1) dX8_look_8 rfl ?_
    exact X_retP dX8_look_9 rfl (Nat.le_refl _) (Nat.le_refl _) h
def f_X8_carrier (M : xM) (a1 a2 : Int32) : Option Int32 :=
  xb (f_X8_look 2 3 56 M a1 a2 7) fun v1 =>
  some v1
set_option maxHeartbeats 1000000 in
theorem x_X8_carrier {ξ : xX} {M : xM} {a1 a2 : Int32} {z : Int32} (h : f_X8_carrier M a1 a2 = some z) : X ξ mX8_carrier 0 [.ref 0, .int a1, .int a2] [] SH M 0 0 (xr (some (.int z)) SH M) := by
  rw [f_X8_carrier] at h
  refine X_aload_n (x := 0) dX8_carrier_0 rfl ?_
  refine X_get (v := .ref 1) kF_RX8_10 sh_0 rfl rfl dX8_carrier_1 ?_
  refine X_get (v := .ref 2) kF_RX8_65 sh_1 rfl rfl dX8_carrier_4 ?_
  refine X_iload_n (x := a1) dX8_carrier_7 rfl ?_
  refine X_iload_n (x := a2) dX8_carrier_8 rfl ?_
  refine X_bipush 7 dX8_carrier_9 rfl ?_
  refine X_sP (μ' := mX8_look) [.ref 2, .int a1, .int a2, .int 7] [] kL_RX8_208 kM_X8_look rfl rfl rfl dX8_carrier_11 h (fun _ hv => x_X8_look xT_2 hv) (fun v1 h => ?_)
  exact X_retP dX8_carrier_14 rfl (Nat.le_refl _) (Nat.le_refl _) h
def f_X8_machine (M : xM) (a1 a2 : Int32) : Option Int32 :=
  xb (f_X8_look 4 5 24 M a1 a2 6) fun v1 =>
  some v1
set_option maxHeartbeats 1000000 in
theorem x_X8_machine {ξ : xX} {M : xM} {a1 a2 : Int32} {z : Int32} (h : f_X8_machine M a1 a2 = some z) : X ξ mX8_machine 0 [.ref 0, .int a1, .int a2] [] SH M 0 0 (xr (some (.int z)) SH M) := by
  rw [f_X8_machine] at h
  refine X_aload_n (x := 0) dX8_machine_0 rfl ?_
  refine X_get (v := .ref 1) kF_RX8_10 sh_0 rfl rfl dX8_machine_1 ?_
  refine X_get (v := .ref 4) kF_RX8_91 sh_1 rfl rfl dX8_machine_4 ?_
  refine X_iload_n (x := a1) dX8_machine_7 rfl ?_
  refine X_iload_n (x := a2) dX8_machine_8 rfl ?_
  refine X_bipush 6 dX8_machine_9 rfl ?_
  refine X_sP (μ' := mX8_look) [.ref 4, .int a1, .int a2, .int 6] [] kL_RX8_208 kM_X8_look rfl rfl rfl dX8_machine_11 h (fun _ hv => x_X8_look xT_4 hv) (fun v1 h => ?_)
  exact X_retP dX8_machine_14 rfl (Nat.le_refl _) (Nat.le_refl _) h
def f_X8_recording (M : xM) (a1 a2 : Int32) : Option Int32 :=
  xb (f_X8_look 6 7 96 M a1 a2 6) fun v1 =>
  some v1
set_option maxHeartbeats 1000000 in
theorem x_X8_recording {ξ : xX} {M : xM} {a1 a2 : Int32} {z : Int32} (h : f_X8_recording M a1 a2 = some z) : X ξ mX8_recording 0 [.ref 0, .int a1, .int a2] [] SH M 0 0 (xr (some (.int z)) SH M) := by
  rw [f_X8_recording] at h
  refine X_aload_n (x := 0) dX8_recording_0 rfl ?_
  refine X_get (v := .ref 1) kF_RX8_10 sh_0 rfl rfl dX8_recording_1 ?_
  refine X_get (v := .ref 6) kF_RX8_109 sh_1 rfl rfl dX8_recording_4 ?_
  refine X_iload_n (x := a1) dX8_recording_7 rfl ?_
  refine X_iload_n (x := a2) dX8_recording_8 rfl ?_
  refine X_bipush 6 dX8_recording_9 rfl ?_
  refine X_sP (μ' := mX8_look) [.ref 6, .int a1, .int a2, .int 6] [] kL_RX8_208 kM_X8_look rfl rfl rfl dX8_recording_11 h (fun _ hv => x_X8_look xT_6 hv) (fun v1 h => ?_)
  exact X_retP dX8_recording_14 rfl (Nat.le_refl _) (Nat.le_refl _) h
def f_X8_pass (M : xM) (a1 a2 : Int32) : Option Int32 :=
  xb (f_X8_look 10 11 264 M a1 a2 7) fun v1 =>
  some v1
set_option maxHeartbeats 1000000 in
theorem x_X8_pass {ξ : xX} {M : xM} {a1 a2 : Int32} {z : Int32} (h : f_X8_pass M a1 a2 = some z) : X ξ mX8_pass 0 [.ref 0, .int a1, .int a2] [] SH M 0 0 (xr (some (.int z)) SH M) := by
  rw [f_X8_pass] at h
  refine X_aload_n (x := 0) dX8_pass_0 rfl ?_
  refine X_get (v := .ref 1) kF_RX8_10 sh_0 rfl rfl dX8_pass_1 ?_
  refine X_get (v := .ref 10) kF_RX8_215 sh_1 rfl rfl dX8_pass_4 ?_
  refine X_iload_n (x := a1) dX8_pass_7 rfl ?_
  refine X_iload_n (x := a2) dX8_pass_8 rfl ?_
  refine X_bipush 7 dX8_pass_9 rfl ?_
  refine X_sP (μ' := mX8_look) [.ref 10, .int a1, .int a2, .int 7] [] kL_RX8_208 kM_X8_look rfl rfl rfl dX8_pass_11 h (fun _ hv => x_X8_look xT_10 hv) (fun v1 h => ?_)
  exact X_retP dX8_pass_14 rfl (Nat.le_refl _) (Nat.le_refl _) h
def f_X8_hasTrack (M : xM) (a1 a2 : Int32) : Option Int32 :=
  xb (f_X6_get 2 3 56 M a1 2) fun v1 =>
  xb (f_X3_countTracks v1) fun v2 =>
  xb (f_X8_isWithin a2 0 (v2 - 1)) fun v3 =>
  xgd (xz v3) (some v3)
set_option maxHeartbeats 1000000 in
theorem x_X8_hasTrack {ξ : xX} {M : xM} {a1 a2 : Int32} {z : Int32} (h : f_X8_hasTrack M a1 a2 = some z) : X ξ mX8_hasTrack 0 [.ref 0, .int a1, .int a2] [] SH M 0 0 (xr (some (.int z)) SH M) := by
  rw [f_X8_hasTrack] at h
  refine X_iload_n (x := a2) dX8_hasTrack_0 rfl ?_
  refine X_iconst 0 dX8_hasTrack_1 rfl ?_
  refine X_aload_n (x := 0) dX8_hasTrack_2 rfl ?_
  refine X_get (v := .ref 1) kF_RX8_10 sh_0 rfl rfl dX8_hasTrack_3 ?_
  refine X_get (v := .ref 2) kF_RX8_65 sh_1 rfl rfl dX8_hasTrack_6 ?_
  refine X_iload_n (x := a1) dX8_hasTrack_9 rfl ?_
  refine X_iconst 2 dX8_hasTrack_10 rfl ?_
  refine X_vP (μ' := mX6_get) [.int a1, .int 2] [.int 0, .int a2] kL_RX8_98 kM_X6_get rv_2 rfl rfl rfl dX8_hasTrack_11 h (fun _ hv => x_X6_get xT_2 hv) (fun v1 h => ?_)
  refine X_sP (μ' := mX3_countTracks) [.int v1] [.int 0, .int a2] kL_RX8_276 kM_X3_countTracks rfl rfl rfl dX8_hasTrack_14 h (fun _ hv => x_X3_countTracks hv) (fun v2 h => ?_)
  refine X_iconst 1 dX8_hasTrack_17 rfl ?_
  refine X_isub dX8_hasTrack_18 ?_
  refine X_sP (μ' := mX8_isWithin) [.int a2, .int 0, .int (v2 - 1)] [] kL_RX8_61 kM_X8_isWithin rfl rfl rfl dX8_hasTrack_19 h (fun _ hv => x_X8_isWithin hv) (fun v3 h => ?_)
  exact X_retZ dX8_hasTrack_22 rfl (Nat.le_refl _) (Nat.le_refl _) h
def f_X8_captured (M : xM) (a1 a2 : Int32) : Option Int32 :=
  xb (f_X6_has 10 11 264 M a1) fun v1 =>
  if v1 = 0 then (
    some (-1))
  else (
    xb (f_X6_get 10 11 264 M a1 0) fun v2 =>
    xb (f_X8_hasTrack M v2 a2) fun v3 =>
    if v3 = 0 then (
      some (-1))
    else (
      xb (f_X6_get 10 11 264 M a1 (7 + a2)) fun v4 =>
      some v4))
set_option maxHeartbeats 1000000 in
theorem x_X8_captured {ξ : xX} {M : xM} {a1 a2 : Int32} {z : Int32} (h : f_X8_captured M a1 a2 = some z) : X ξ mX8_captured 0 [.ref 0, .int a1, .int a2] [] SH M 0 0 (xr (some (.int z)) SH M) := by
  rw [f_X8_captured] at h
  refine X_aload_n (x := 0) dX8_captured_0 rfl ?_
  refine X_get (v := .ref 1) kF_RX8_10 sh_0 rfl rfl dX8_captured_1 ?_
  refine X_get (v := .ref 10) kF_RX8_215 sh_1 rfl rfl dX8_captured_4 ?_
  refine X_iload_n (x := a1) dX8_captured_7 rfl ?_
  refine X_vP (μ' := mX6_has) [.int a1] [] kL_RX8_94 kM_X6_has rv_10 rfl rfl rfl dX8_captured_8 h (fun _ hv => x_X6_has xT_10 hv) (fun v1 h => ?_)
  refine X_if_eq 34 dX8_captured_11 (by decide) h (fun h => ?_) (fun h => ?_)
  · refine X_iconst (-1) dX8_captured_34 rfl ?_
    exact X_retP dX8_captured_35 rfl (Nat.le_refl _) (Nat.le_refl _) h
  · refine X_aload_n (x := 0) dX8_captured_14 rfl ?_
    refine X_aload_n (x := 0) dX8_captured_15 rfl ?_
    refine X_get (v := .ref 1) kF_RX8_10 sh_0 rfl rfl dX8_captured_16 ?_
    refine X_get (v := .ref 10) kF_RX8_215 sh_1 rfl rfl dX8_captured_19 ?_
    refine X_iload_n (x := a1) dX8_captured_22 rfl ?_
    refine X_iconst 0 dX8_captured_23 rfl ?_
    refine X_vP (μ' := mX6_get) [.int a1, .int 0] [.ref 0] kL_RX8_98 kM_X6_get rv_10 rfl rfl rfl dX8_captured_24 h (fun _ hv => x_X6_get xT_10 hv) (fun v2 h => ?_)
    refine X_iload_n (x := a2) dX8_captured_27 rfl ?_
    refine X_vP (μ' := mX8_hasTrack) [.int v2, .int a2] [] kL_RX8_218 kM_X8_hasTrack rv_0 rfl rfl rfl dX8_captured_28 h (fun _ hv => x_X8_hasTrack hv) (fun v3 h => ?_)
    refine X_if_ne 36 dX8_captured_31 (by decide) h (fun h => ?_) (fun h => ?_)
    · refine X_aload_n (x := 0) dX8_captured_36 rfl ?_
      refine X_get (v := .ref 1) kF_RX8_10 sh_0 rfl rfl dX8_captured_37 ?_
      refine X_get (v := .ref 10) kF_RX8_215 sh_1 rfl rfl dX8_captured_40 ?_
      refine X_iload_n (x := a1) dX8_captured_43 rfl ?_
      refine X_bipush 7 dX8_captured_44 rfl ?_
      refine X_iload_n (x := a2) dX8_captured_46 rfl ?_
      refine X_iadd dX8_captured_47 ?_
      refine X_vP (μ' := mX6_get) [.int a1, .int (7 + a2)] [] kL_RX8_98 kM_X6_get rv_10 rfl rfl rfl dX8_captured_48 h (fun _ hv => x_X6_get xT_10 hv) (fun v4 h => ?_)
      exact X_retP dX8_captured_51 rfl (Nat.le_refl _) (Nat.le_refl _) h
    · refine X_iconst (-1) dX8_captured_34 rfl ?_
      exact X_retP dX8_captured_35 rfl (Nat.le_refl _) (Nat.le_refl _) h
def f_X8_quality (M : xM) (a1 a2 : Int32) : Option Int32 :=
  xb (f_X6_has 10 11 264 M a1) fun v1 =>
  if v1 = 0 then (
    some (-1))
  else (
    xb (f_X6_has 6 7 96 M a2) fun v2 =>
    if v2 = 0 then (
      some (-1))
    else (
      xb (f_X8_qualityInPass M a1 a2) fun v3 =>
      some v3))
set_option maxHeartbeats 1000000 in
theorem x_X8_quality {ξ : xX} {M : xM} {a1 a2 : Int32} {z : Int32} (h : f_X8_quality M a1 a2 = some z) : X ξ mX8_quality 0 [.ref 0, .int a1, .int a2] [] SH M 0 0 (xr (some (.int z)) SH M) := by
  rw [f_X8_quality] at h
  refine X_aload_n (x := 0) dX8_quality_0 rfl ?_
  refine X_get (v := .ref 1) kF_RX8_10 sh_0 rfl rfl dX8_quality_1 ?_
  refine X_get (v := .ref 10) kF_RX8_215 sh_1 rfl rfl dX8_quality_4 ?_
  refine X_iload_n (x := a1) dX8_quality_7 rfl ?_
  refine X_vP (μ' := mX6_has) [.int a1] [] kL_RX8_94 kM_X6_has rv_10 rfl rfl rfl dX8_quality_8 h (fun _ hv => x_X6_has xT_10 hv) (fun v1 h => ?_)
  refine X_if_eq 28 dX8_quality_11 (by decide) h (fun h => ?_) (fun h => ?_)
  · refine X_iconst (-1) dX8_quality_28 rfl ?_
    exact X_retP dX8_quality_29 rfl (Nat.le_refl _) (Nat.le_refl _) h
  · refine X_aload_n (x := 0) dX8_quality_14 rfl ?_
    refine X_get (v := .ref 1) kF_RX8_10 sh_0 rfl rfl dX8_quality_15 ?_
    refine X_get (v := .ref 6) kF_RX8_109 sh_1 rfl rfl dX8_quality_18 ?_
    refine X_iload_n (x := a2) dX8_quality_21 rfl ?_
    refine X_vP (μ' := mX6_has) [.int a2] [] kL_RX8_94 kM_X6_has rv_6 rfl rfl rfl dX8_quality_22 h (fun _ hv => x_X6_has xT_6 hv) (fun v2 h => ?_)
    refine X_if_ne 30 dX8_quality_25 (by decide) h (fun h => ?_) (fun h => ?_)
    · refine X_aload_n (x := 0) dX8_quality_30 rfl ?_
      refine X_iload_n (x := a1) dX8_quality_31 rfl ?_
      refine X_iload_n (x := a2) dX8_quality_32 rfl ?_
      refine X_vP (μ' := mX8_qualityInPass) [.int a1, .int a2] [] kL_RX8_221 kM_X8_qualityInPass rv_0 rfl rfl rfl dX8_quality_33 h (fun _ hv => x_X8_qualityInPass hv) (fun v3 h => ?_)
      exact X_retP dX8_quality_36 rfl (Nat.le_refl _) (Nat.le_refl _) h
    · refine X_iconst (-1) dX8_quality_28 rfl ?_
      exact X_retP dX8_quality_29 rfl (Nat.le_refl _) (Nat.le_refl _) h
