def f_X8_isWithin (a1 a2 a3 : Int32) : Option Int32 :=
  if a1 < a2 then (
    some 0)
  else (
    if a3 < a1 then (
      some 0)
    else (
      some 1))
set_option maxHeartbeats 1000000 in
theorem x_X8_isWithin {ξ : xX} {M : xM} {a1 a2 a3 : Int32} {z : Int32} (h : f_X8_isWithin a1 a2 a3 = some z) : X ξ mX8_isWithin 0 [.int a1, .int a2, .int a3] [] SH M 0 0 (xr (some (.int z)) SH M) := by
  rw [f_X8_isWithin] at h
  refine X_iload_n (x := a1) dX8_isWithin_0 rfl ?_
  refine X_iload_n (x := a2) dX8_isWithin_1 rfl ?_
  refine X_icmp_lt 14 dX8_isWithin_2 (by decide) h (fun h => ?_) (fun h => ?_)
  · refine X_iconst 0 dX8_isWithin_14 rfl ?_
    exact X_retLP (by decide) dX8_isWithin_15 rfl (Nat.le_refl _) (Nat.le_refl _) h
  · refine X_iload_n (x := a1) dX8_isWithin_5 rfl ?_
    refine X_iload_n (x := a3) dX8_isWithin_6 rfl ?_
    refine X_icmp_gt 14 dX8_isWithin_7 (by decide) h (fun h => ?_) (fun h => ?_)
    · refine X_iconst 0 dX8_isWithin_14 rfl ?_
      exact X_retLP (by decide) dX8_isWithin_15 rfl (Nat.le_refl _) (Nat.le_refl _) h
    · refine X_iconst 1 dX8_isWithin_10 rfl ?_
      refine X_goto 15 dX8_isWithin_11 (by decide) ?_
      exact X_retLP (by decide) dX8_isWithin_15 rfl (Nat.le_refl _) (Nat.le_refl _) h
def f_X8_addCarrier (M : xM) (a1 a2 a3 a4 a5 : Int32) : Option (Int32 × xM) :=
  xb (f_X2_hasLayout a1 a3) fun v2 =>
  if v2 = 0 then (
    some ((-2), M))
  else (
    xb (f_X2_numberOfSpeed a1 a2) fun v3 =>
    if v3 < 0 then (
      some ((-2), M))
    else (
      xb (f_X8_isWithin a4 1 3600) fun v4 =>
      if v4 = 0 then (
        some ((-2), M))
      else (
        xb (f_X8_isWithin a5 1 99) fun v5 =>
        if v5 = 0 then (
          some ((-2), M))
        else (
          xb (f_X6_isFull 2 3 56 M) fun v6 =>
          if v6 = 0 then (
            xb (f_X1_keep M) fun M7 =>
            xb2 (f_X6_addRow 2 3 56 M7) fun v8 M9 =>
            xl v8 fun v10 =>
            xb (f_X6_set 2 3 56 M9 v10 0 a1) fun M11 =>
            xb (f_X6_set 2 3 56 M11 v10 1 a2) fun M12 =>
            xb (f_X6_set 2 3 56 M12 v10 2 a3) fun M13 =>
            xb (f_X6_set 2 3 56 M13 v10 3 a4) fun M14 =>
            xb (f_X6_set 2 3 56 M14 v10 4 a5) fun M15 =>
            some (v10, M15))
          else (
            some ((-4), M))))))
set_option maxHeartbeats 1000000 in
theorem x_X8_addCarrier {ξ : xX} {M : xM} {a1 a2 a3 a4 a5 : Int32} {z : (Int32 × xM)} (h : f_X8_addCarrier M a1 a2 a3 a4 a5 = some z) : X ξ mX8_addCarrier 0 [.ref 0, .int a1, .int a2, .int a3, .int a4, .int a5] [] SH M 0 0 (xr (some (.int z.1)) SH z.2) := by
  rw [f_X8_addCarrier] at h
  refine X_iload_n (x := a1) dX8_addCarrier_0 rfl ?_
  refine X_iload_n (x := a3) dX8_addCarrier_1 rfl ?_
  refine X_sP (μ' := mX2_hasLayout) [.int a1, .int a3] [] kL_RX8_51 kM_X2_hasLayout rfl rfl rfl dX8_addCarrier_2 h (fun _ hv => x_X2_hasLayout hv) (fun v2 h => ?_)
  refine X_if_eq 39 dX8_addCarrier_5 (by decide) h (fun h => ?_) (fun h => ?_)
  · refine X_bipush (-2) dX8_addCarrier_39 rfl ?_
    exact X_retI dX8_addCarrier_41 rfl (Nat.le_refl _) (Nat.le_refl _) h
  · refine X_iload_n (x := a1) dX8_addCarrier_8 rfl ?_
    refine X_iload_n (x := a2) dX8_addCarrier_9 rfl ?_
    refine X_sP (μ' := mX2_numberOfSpeed) [.int a1, .int a2] [] kL_RX8_57 kM_X2_numberOfSpeed rfl rfl rfl dX8_addCarrier_10 h (fun _ hv => x_X2_numberOfSpeed hv) (fun v3 h => ?_)
    refine X_if_lt 39 dX8_addCarrier_13 (by decide) h (fun h => ?_) (fun h => ?_)
    · refine X_bipush (-2) dX8_addCarrier_39 rfl ?_
      exact X_retI dX8_addCarrier_41 rfl (Nat.le_refl _) (Nat.le_refl _) h
    · refine X_iload (x := a4) dX8_addCarrier_16 rfl ?_
      refine X_iconst 1 dX8_addCarrier_18 rfl ?_
      refine X_sipush 3600 dX8_addCarrier_19 rfl ?_
      refine X_sP (μ' := mX8_isWithin) [.int a4, .int 1, .int 3600] [] kL_RX8_61 kM_X8_isWithin rfl rfl rfl dX8_addCarrier_22 h (fun _ hv => x_X8_isWithin hv) (fun v4 h => ?_)
      refine X_if_eq 39 dX8_addCarrier_25 (by decide) h (fun h => ?_) (fun h => ?_)
      · refine X_bipush (-2) dX8_addCarrier_39 rfl ?_
        exact X_retI dX8_addCarrier_41 rfl (Nat.le_refl _) (Nat.le_refl _) h
      · refine X_iload (x := a5) dX8_addCarrier_28 rfl ?_
        refine X_iconst 1 dX8_addCarrier_30 rfl ?_
        refine X_bipush 99 dX8_addCarrier_31 rfl ?_
        refine X_sP (μ' := mX8_isWithin) [.int a5, .int 1, .int 99] [] kL_RX8_61 kM_X8_isWithin rfl rfl rfl dX8_addCarrier_33 h (fun _ hv => x_X8_isWithin hv) (fun v5 h => ?_)
        refine X_if_ne 42 dX8_addCarrier_36 (by decide) h (fun h => ?_) (fun h => ?_)
        · refine X_aload_n (x := 0) dX8_addCarrier_42 rfl ?_
          refine X_get (v := .ref 1) kF_RX8_10 sh_0 rfl rfl dX8_addCarrier_43 ?_
          refine X_get (v := .ref 2) kF_RX8_65 sh_1 rfl rfl dX8_addCarrier_46 ?_
          refine X_vP (μ' := mX6_isFull) [] [] kL_RX8_69 kM_X6_isFull rv_2 rfl rfl rfl dX8_addCarrier_49 h (fun _ hv => x_X6_isFull xT_2 hv) (fun v6 h => ?_)
          refine X_if_eq 58 dX8_addCarrier_52 (by decide) h (fun h => ?_) (fun h => ?_)
          · refine X_aload_n (x := 0) dX8_addCarrier_58 rfl ?_
            refine X_get (v := .ref 18) kF_RX8_19 sh_0 rfl rfl dX8_addCarrier_59 ?_
            refine X_aload_n (x := 0) dX8_addCarrier_62 rfl ?_
            refine X_get (v := .ref 1) kF_RX8_10 sh_0 rfl rfl dX8_addCarrier_63 ?_
            refine X_vV (μ' := mX1_keep) [.ref 1] [] kL_RX8_75 kM_X1_keep rv_18 rfl rfl rfl dX8_addCarrier_66 h (fun _ hv => x_X1_keep hv) (fun M7 h => ?_)
            refine X_aload_n (x := 0) dX8_addCarrier_69 rfl ?_
            refine X_get (v := .ref 1) kF_RX8_10 sh_0 rfl rfl dX8_addCarrier_70 ?_
            refine X_get (v := .ref 2) kF_RX8_65 sh_1 rfl rfl dX8_addCarrier_73 ?_
            refine X_vI (μ' := mX6_addRow) [] [] kL_RX8_79 kM_X6_addRow rv_2 rfl rfl rfl dX8_addCarrier_76 h (fun _ hv => x_X6_addRow xT_2 hv) (fun v8 M9 h => ?_)
            refine X_istoreL (fun v10 => [.ref 0, .int a1, .int a2, .int a3, .int a4, .int a5, .int v10]) dX8_addCarrier_79 (Nat.le_of_ble_eq_true rfl) (Nat.le_of_ble_eq_true rfl) (xcat1_of rfl) h (fun _ => rfl) (fun v10 h => ?_)
            refine X_aload_n (x := 0) dX8_addCarrier_81 rfl ?_
            refine X_get (v := .ref 1) kF_RX8_10 sh_0 rfl rfl dX8_addCarrier_82 ?_
            refine X_get (v := .ref 2) kF_RX8_65 sh_1 rfl rfl dX8_addCarrier_85 ?_
            refine X_iload (x := v10) dX8_addCarrier_88 rfl ?_
            refine X_iconst 0 dX8_addCarrier_90 rfl ?_
            refine X_iload_n (x := a1) dX8_addCarrier_91 rfl ?_
            refine X_vV (μ' := mX6_set) [.int v10, .int 0, .int a1] [] kL_RX8_83 kM_X6_set rv_2 rfl rfl rfl dX8_addCarrier_92 h (fun _ hv => x_X6_set xT_2 hv) (fun M11 h => ?_)
            refine X_aload_n (x := 0) dX8_addCarrier_95 rfl ?_
            refine X_get (v := .ref 1) kF_RX8_10 sh_0 rfl rfl dX8_addCarrier_96 ?_
            refine X_get (v := .ref 2) kF_RX8_65 sh_1 rfl rfl dX8_addCarrier_99 ?_
            refine X_iload (x := v10) dX8_addCarrier_102 rfl ?_
            refine X_iconst 1 dX8_addCarrier_104 rfl ?_
            refine X_iload_n (x := a2) dX8_addCarrier_105 rfl ?_
            refine X_vV (μ' := mX6_set) [.int v10, .int 1, .int a2] [] kL_RX8_83 kM_X6_set rv_2 rfl rfl rfl dX8_addCarrier_106 h (fun _ hv => x_X6_set xT_2 hv) (fun M12 h => ?_)
            refine X_aload_n (x := 0) dX8_addCarrier_109 rfl ?_
            refine X_get (v := .ref 1) kF_RX8_10 sh_0 rfl rfl dX8_addCarrier_110 ?_
            refine X_get (v := .ref 2) kF_RX8_65 sh_1 rfl rfl dX8_addCarrier_113 ?_
            refine X_iload (x := v10) dX8_addCarrier_116 rfl ?_
            refine X_iconst 2 dX8_addCarrier_118 rfl ?_
            refine X_iload_n (x := a3) dX8_addCarrier_119 rfl ?_
            refine X_vV (μ' := mX6_set) [.int v10, .int 2, .int a3] [] kL_RX8_83 kM_X6_set rv_2 rfl rfl rfl dX8_addCarrier_120 h (fun _ hv => x_X6_set xT_2 hv) (fun M13 h => ?_)
            refine X_aload_n (x := 0) dX8_addCarrier_123 rfl ?_
            refine X_get (v := .ref 1) kF_RX8_10 sh_0 rfl rfl dX8_addCarrier_124 ?_
            refine X_get (v := .ref 2) kF_RX8_65 sh_1 rfl rfl dX8_addCarrier_127 ?_
            refine X_iload (x := v10) dX8_addCarrier_130 rfl ?_
            refine X_iconst 3 dX8_addCarrier_132 rfl ?_
            refine X_iload (x := a4) dX8_addCarrier_133 rfl ?_
            refine X_vV (μ' := mX6_set) [.int v10, .int 3, .int a4] [] kL_RX8_83 kM_X6_set rv_2 rfl rfl rfl dX8_addCarrier_135 h (fun _ hv => x_X6_set xT_2 hv) (fun M14 h => ?_)
            refine X_aload_n (x := 0) dX8_addCarrier_138 rfl ?_
            refine X_get (v := .ref 1) kF_RX8_10 sh_0 rfl rfl dX8_addCarrier_139 ?_
            refine X_get (v := .ref 2) kF_RX8_65 sh_1 rfl rfl dX8_addCarrier_142 ?_
            refine X_iload (x := v10) dX8_addCarrier_145 rfl ?_
            refine X_iconst 4 dX8_addCarrier_147 rfl ?_
            refine X_iload (x := a5) dX8_addCarrier_148 rfl ?_
            refine X_vV (μ' := mX6_set) [.int v10, .int 4, .int a5] [] kL_RX8_83 kM_X6_set rv_2 rfl rfl rfl dX8_addCarrier_150 h (fun _ hv => x_X6_set xT_2 hv) (fun M15 h => ?_)
            refine X_iload (x := v10) dX8_addCarrier_153 rfl ?_
            exact X_retI dX8_addCarrier_155 rfl (Nat.le_refl _) (Nat.le_refl _) h
          · refine X_bipush (-4) dX8_addCarrier_55 rfl ?_
            exact X_retI dX8_addCarrier_57 rfl (Nat.le_refl _) (Nat.le_refl _) h
        · refine X_bipush (-2) dX8_addCarrier_39 rfl ?_
          exact X_retI dX8_addCarrier_41 rfl (Nat.le_refl _) (Nat.le_refl _) h
def f_X8_addMachine (M : xM) (a1 a2 a3 a4 : Int32) : Option (Int32 × xM) :=
  xb (f_X2_hasLayout a1 a3) fun v2 =>
  if v2 = 0 then (
    some ((-2), M))
  else (
    xb (f_X2_allSpeeds a1) fun v3 =>
    xb (f_X8_isWithin a2 1 v3) fun v4 =>
    if v4 = 0 then (
      some ((-2), M))
    else (
      xb (f_X8_isWithin a4 1 100) fun v5 =>
      if v5 = 0 then (
        some ((-2), M))
      else (
        xb (f_X6_isFull 4 5 24 M) fun v6 =>
        if v6 = 0 then (
          xb (f_X1_keep M) fun M7 =>
          xb2 (f_X6_addRow 4 5 24 M7) fun v8 M9 =>
          xl v8 fun v10 =>
          xb (f_X6_set 4 5 24 M9 v10 0 a1) fun M11 =>
          xb (f_X6_set 4 5 24 M11 v10 1 a2) fun M12 =>
          xb (f_X6_set 4 5 24 M12 v10 2 a3) fun M13 =>
          xb (f_X6_set 4 5 24 M13 v10 3 a4) fun M14 =>
          xb (f_X6_set 4 5 24 M14 v10 4 28800) fun M15 =>
          some (v10, M15))
        else (
          some ((-4), M)))))
set_option maxHeartbeats 1000000 in
theorem x_X8_addMachine {ξ : xX} {M : xM} {a1 a2 a3 a4 : Int32} {z : (Int32 × xM)} (h : f_X8_addMachine M a1 a2 a3 a4 = some z) : X ξ mX8_addMachine 0 [.ref 0, .int a1, .int a2, .int a3, .int a4] [] SH M 0 0 (xr (some (.int z.1)) SH z.2) := by
  rw [f_X8_addMachine] at h
  refine X_iload_n (x := a1) dX8_addMachine_0 rfl ?_
  refine X_iload_n (x := a3) dX8_addMachine_1 rfl ?_
  refine X_sP (μ' := mX2_hasLayout) [.int a1, .int a3] [] kL_RX8_51 kM_X2_hasLayout rfl rfl rfl dX8_addMachine_2 h (fun _ hv => x_X2_hasLayout hv) (fun v2 h => ?_)
  refine X_if_eq 31 dX8_addMachine_5 (by decide) h (fun h => ?_) (fun h => ?_)
  · refine X_bipush (-2) dX8_addMachine_31 rfl ?_
    exact X_retI dX8_addMachine_33 rfl (Nat.le_refl _) (Nat.le_refl _) h
  · refine X_iload_n (x := a2) dX8_addMachine_8 rfl ?_
    refine X_iconst 1 dX8_addMachine_9 rfl ?_
    refine X_iload_n (x := a1) dX8_addMachine_10 rfl ?_
    refine X_sP (μ' := mX2_allSpeeds) [.int a1] [.int 1, .int a2] kL_RX8_87 kM_X2_allSpeeds rfl rfl rfl dX8_addMachine_11 h (fun _ hv => x_X2_allSpeeds hv) (fun v3 h => ?_)
    refine X_sP (μ' := mX8_isWithin) [.int a2, .int 1, .int v3] [] kL_RX8_61 kM_X8_isWithin rfl rfl rfl dX8_addMachine_14 h (fun _ hv => x_X8_isWithin hv) (fun v4 h => ?_)
    refine X_if_eq 31 dX8_addMachine_17 (by decide) h (fun h => ?_) (fun h => ?_)
    · refine X_bipush (-2) dX8_addMachine_31 rfl ?_
      exact X_retI dX8_addMachine_33 rfl (Nat.le_refl _) (Nat.le_refl _) h
    · refine X_iload (x := a4) dX8_addMachine_20 rfl ?_
      refine X_iconst 1 dX8_addMachine_22 rfl ?_
      refine X_bipush 100 dX8_addMachine_23 rfl ?_
      refine X_sP (μ' := mX8_isWithin) [.int a4, .int 1, .int 100] [] kL_RX8_61 kM_X8_isWithin rfl rfl rfl dX8_addMachine_25 h (fun _ hv => x_X8_isWithin hv) (fun v5 h => ?_)
      refine X_if_ne 34 dX8_addMachine_28 (by decide) h (fun h => ?_) (fun h => ?_)
      · refine X_aload_n (x := 0) dX8_addMachine_34 rfl ?_
        refine X_get (v := .ref 1) kF_RX8_10 sh_0 rfl rfl dX8_addMachine_35 ?_
        refine X_get (v := .ref 4) kF_RX8_91 sh_1 rfl rfl dX8_addMachine_38 ?_
        refine X_vP (μ' := mX6_isFull) [] [] kL_RX8_69 kM_X6_isFull rv_4 rfl rfl rfl dX8_addMachine_41 h (fun _ hv => x_X6_isFull xT_4 hv) (fun v6 h => ?_)
        refine X_if_eq 50 dX8_addMachine_44 (by decide) h (fun h => ?_) (fun h => ?_)
        · refine X_aload_n (x := 0) dX8_addMachine_50 rfl ?_
          refine X_get (v := .ref 18) kF_RX8_19 sh_0 rfl rfl dX8_addMachine_51 ?_
          refine X_aload_n (x := 0) dX8_addMachine_54 rfl ?_
          refine X_get (v := .ref 1) kF_RX8_10 sh_0 rfl rfl dX8_addMachine_55 ?_
          refine X_vV (μ' := mX1_keep) [.ref 1] [] kL_RX8_75 kM_X1_keep rv_18 rfl rfl rfl dX8_addMachine_58 h (fun _ hv => x_X1_keep hv) (fun M7 h => ?_)
          refine X_aload_n (x := 0) dX8_addMachine_61 rfl ?_
          refine X_get (v := .ref 1) kF_RX8_10 sh_0 rfl rfl dX8_addMachine_62 ?_
          refine X_get (v := .ref 4) kF_RX8_91 sh_1 rfl rfl dX8_addMachine_65 ?_
          refine X_vI (μ' := mX6_addRow) [] [] kL_RX8_79 kM_X6_addRow rv_4 rfl rfl rfl dX8_addMachine_68 h (fun _ hv => x_X6_addRow xT_4 hv) (fun v8 M9 h => ?_)
          refine X_istoreL (fun v10 => [.ref 0, .int a1, .int a2, .int a3, .int a4, .int v10]) dX8_addMachine_71 (Nat.le_of_ble_eq_true rfl) (Nat.le_of_ble_eq_true rfl) (xcat1_of rfl) h (fun _ => rfl) (fun v10 h => ?_)
          refine X_aload_n (x := 0) dX8_addMachine_73 rfl ?_
          refine X_get (v := .ref 1) kF_RX8_10 sh_0 rfl rfl dX8_addMachine_74 ?_
          refine X_get (v := .ref 4) kF_RX8_91 sh_1 rfl rfl dX8_addMachine_77 ?_
          refine X_iload (x := v10) dX8_addMachine_80 rfl ?_
          refine X_iconst 0 dX8_addMachine_82 rfl ?_
          refine X_iload_n (x := a1) dX8_addMachine_83 rfl ?_
          refine X_vV (μ' := mX6_set) [.int v10, .int 0, .int a1] [] kL_RX8_83 kM_X6_set rv_4 rfl rfl rfl dX8_addMachine_84 h (fun _ hv => x_X6_set xT_4 hv) (fun M11 h => ?_)
          refine X_aload_n (x := 0) dX8_addMachine_87 rfl ?_
          refine X_get (v := .ref 1) kF_RX8_10 sh_0 rfl rfl dX8_addMachine_88 ?_
          refine X_get (v := .ref 4) kF_RX8_91 sh_1 rfl rfl dX8_addMachine_91 ?_
          refine X_iload (x := v10) dX8_addMachine_94 rfl ?_
          refine X_iconst 1 dX8_addMachine_96 rfl ?_
          refine X_iload_n (x := a2) dX8_addMachine_97 rfl ?_
          refine X_vV (μ' := mX6_set) [.int v10, .int 1, .int a2] [] kL_RX8_83 kM_X6_set rv_4 rfl rfl rfl dX8_addMachine_98 h (fun _ hv => x_X6_set xT_4 hv) (fun M12 h => ?_)
          refine X_aload_n (x := 0) dX8_addMachine_101 rfl ?_
          refine X_get (v := .ref 1) kF_RX8_10 sh_0 rfl rfl dX8_addMachine_102 ?_
          refine X_get (v := .ref 4) kF_RX8_91 sh_1 rfl rfl dX8_addMachine_105 ?_
          refine X_iload (x := v10) dX8_addMachine_108 rfl ?_
          refine X_iconst 2 dX8_addMachine_110 rfl ?_
          refine X_iload_n (x := a3) dX8_addMachine_111 rfl ?_
          refine X_vV (μ' := mX6_set) [.int v10, .int 2, .int a3] [] kL_RX8_83 kM_X6_set rv_4 rfl rfl rfl dX8_addMachine_112 h (fun _ hv => x_X6_set xT_4 hv) (fun M13 h => ?_)
          refine X_aload_n (x := 0) dX8_addMachine_115 rfl ?_
          refine X_get (v := .ref 1) kF_RX8_10 sh_0 rfl rfl dX8_addMachine_116 ?_
          refine X_get (v := .ref 4) kF_RX8_91 sh_1 rfl rfl dX8_addMachine_119 ?_
          refine X_iload (x := v10) dX8_addMachine_122 rfl ?_
          refine X_iconst 3 dX8_addMachine_124 rfl ?_
          refine X_iload (x := a4) dX8_addMachine_125 rfl ?_
          refine X_vV (μ' := mX6_set) [.int v10, .int 3, .int a4] [] kL_RX8_83 kM_X6_set rv_4 rfl rfl rfl dX8_addMachine_127 h (fun _ hv => x_X6_set xT_4 hv) (fun M14 h => ?_)
          refine X_aload_n (x := 0) dX8_addMachine_130 rfl ?_
          refine X_get (v := .ref 1) kF_RX8_10 sh_0 rfl rfl dX8_addMachine_131 ?_
          refine X_get (v := .ref 4) kF_RX8_91 sh_1 rfl rfl dX8_addMachine_134 ?_
          refine X_iload (x := v10) dX8_addMachine_137 rfl ?_
          refine X_iconst 4 dX8_addMachine_139 rfl ?_
          refine X_sipush 28800 dX8_addMachine_140 rfl ?_
          refine X_vV (μ' := mX6_set) [.int v10, .int 4, .int 28800] [] kL_RX8_83 kM_X6_set rv_4 rfl rfl rfl dX8_addMachine_143 h (fun _ hv => x_X6_set xT_4 hv) (fun M15 h => ?_)
          refine X_iload (x := v10) dX8_addMachine_146 rfl ?_
          exact X_retI dX8_addMachine_148 rfl (Nat.le_refl _) (Nat.le_refl _) h
        · refine X_bipush (-4) dX8_addMachine_47 rfl ?_
          exact X_retI dX8_addMachine_49 rfl (Nat.le_refl _) (Nat.le_refl _) h
      · refine X_bipush (-2) dX8_addMachine_31 rfl ?_
        exact X_retI dX8_addMachine_33 rfl (Nat.le_refl _) (Nat.le_refl _) h
def f_X8_isStretch (a1 a2 a3 : Int32) : Option Int32 :=
  if a1 < 0 then (
    some 0)
  else (
    if a2 ≤ a1 then (
      some 0)
    else (
      if a3 < a2 then (
        some 0)
      else (
        some 1)))
set_option maxHeartbeats 1000000 in
theorem x_X8_isStretch {ξ : xX} {M : xM} {a1 a2 a3 : Int32} {z : Int32} (h : f_X8_isStretch a1 a2 a3 = some z) : X ξ mX8_isStretch 0 [.int a1, .int a2, .int a3] [] SH M 0 0 (xr (some (.int z)) SH M) := by
  rw [f_X8_isStretch] at h
  refine X_iload_n (x := a1) dX8_isStretch_0 rfl ?_
  refine X_if_lt 18 dX8_isStretch_1 (by decide) h (fun h => ?_) (fun h => ?_)
  · refine X_iconst 0 dX8_isStretch_18 rfl ?_
    exact X_retLP (by decide) dX8_isStretch_19 rfl (Nat.le_refl _) (Nat.le_refl _) h
  · refine X_iload_n (x := a1) dX8_isStretch_4 rfl ?_
    refine X_iload_n (x := a2) dX8_isStretch_5 rfl ?_
    refine X_icmp_ge 18 dX8_isStretch_6 (by decide) h (fun h => ?_) (fun h => ?_)
    · refine X_iconst 0 dX8_isStretch_18 rfl ?_
      exact X_retLP (by decide) dX8_isStretch_19 rfl (Nat.le_refl _) (Nat.le_refl _) h
    · refine X_iload_n (x := a2) dX8_isStretch_9 rfl ?_
      refine X_iload_n (x := a3) dX8_isStretch_10 rfl ?_
      refine X_icmp_gt 18 dX8_isStretch_11 (by decide) h (fun h => ?_) (fun h => ?_)
      · refine X_iconst 0 dX8_isStretch_18 rfl ?_
        exact X_retLP (by decide) dX8_isStretch_19 rfl (Nat.le_refl _) (Nat.le_refl _) h
      · refine X_iconst 1 dX8_isStretch_14 rfl ?_
        refine X_goto 19 dX8_isStretch_15 (by decide) ?_
        exact X_retLP (by decide) dX8_isStretch_19 rfl (Nat.le_refl _) (Nat.le_refl _) h
def f_X8_isTaken_90 (M : xM) (k3 : Int32 → Int32 → Int32 → Int32 → Int32 → Option Int32) (i1 : Int32) (i2 : Int32) (i3 : Int32) (i4 : Int32) (i5 : Int32) : Option Int32 :=
  xl (i5 + 1) fun v3 =>
  k3 i1 i2 i3 i4 v3
set_option maxHeartbeats 1000000 in
theorem x_X8_isTaken_90 {ξ : xX} {M : xM} {k3 : Int32 → Int32 → Int32 → Int32 → Int32 → Option Int32} {i1 : Int32} {i2 : Int32} {i3 : Int32} {i4 : Int32} {i5 : Int32} (hk3 : ∀ (j1 j2 j3 j4 j5 : Int32) (z : Int32), k3 j1 j2 j3 j4 j5 = some z → X ξ mX8_isTaken 3 [.ref 0, .int j1, .int j2, .int j3, .int j4, .int j5] [] SH M 0 0 (xr (some (.int z)) SH M)) {z : Int32} (h : f_X8_isTaken_90 M k3 i1 i2 i3 i4 i5 = some z) : X ξ mX8_isTaken 90 [.ref 0, .int i1, .int i2, .int i3, .int i4, .int i5] [] SH M 0 0 (xr (some (.int z)) SH M) := by
  rw [f_X8_isTaken_90] at h
  refine X_iincL (x := i5) 1 (fun v3 => [.ref 0, .int i1, .int i2, .int i3, .int i4, .int v3]) dX8_isTaken_90 rfl rfl (Nat.le_of_ble_eq_true rfl) (xcat1_of rfl) h (fun _ => rfl) (fun v3 h => ?_)
  refine X_goto 3 dX8_isTaken_93 (by decide) ?_
  exact hk3 _ _ _ _ _ _ h
def f_X8_isTaken_3 (M : xM) : Nat → Int32 → Int32 → Int32 → Int32 → Int32 → Option Int32
  | 0, _, _, _, _, _ => none
  | fu + 1, i1, i2, i3, i4, i5 =>
    if (M 6 2) ≤ i5 then (
      some 0)
    else (
      xb (f_X6_get 6 7 96 M i5 0) fun v4 =>
      if v4 = i1 then (
        xb (f_X6_get 6 7 96 M i5 1) fun v5 =>
        if (v5 &&& i2) = 0 then (
          f_X8_isTaken_90 M (f_X8_isTaken_3 M fu) i1 i2 i3 i4 i5)
        else (
          xb (f_X6_get 6 7 96 M i5 3) fun v6 =>
          if v6 ≤ i3 then (
            f_X8_isTaken_90 M (f_X8_isTaken_3 M fu) i1 i2 i3 i4 i5)
          else (
            xb (f_X6_get 6 7 96 M i5 2) fun v7 =>
            if i4 ≤ v7 then (
              f_X8_isTaken_90 M (f_X8_isTaken_3 M fu) i1 i2 i3 i4 i5)
            else (
              some 1))))
      else (
        f_X8_isTaken_90 M (f_X8_isTaken_3 M fu) i1 i2 i3 i4 i5))
set_option maxHeartbeats 1000000 in
theorem x_X8_isTaken_3 {ξ : xX} {M : xM} : ∀ (fu : Nat) (i1 i2 i3 i4 i5 : Int32) (z : Int32), f_X8_isTaken_3 M fu i1 i2 i3 i4 i5 = some z → X ξ mX8_isTaken 3 [.ref 0, .int i1, .int i2, .int i3, .int i4, .int i5] [] SH M 0 0 (xr (some (.int z)) SH M) := by
  intro fu
  induction fu with
  | zero => intro i1 i2 i3 i4 i5 z h; rw [f_X8_isTaken_3] at h; cases h
  | succ fu ih =>
    intro i1 i2 i3 i4 i5 z h
    rw [f_X8_isTaken_3] at h
    refine X_iload (x := i5) dX8_isTaken_3 rfl ?_
    refine X_aload_n (x := 0) dX8_isTaken_5 rfl ?_
    refine X_get (v := .ref 1) kF_RX8_10 sh_0 rfl rfl dX8_isTaken_6 ?_
    refine X_get (v := .ref 6) kF_RX8_109 sh_1 rfl rfl dX8_isTaken_9 ?_
    refine X_get (v := .int (M 6 2)) kF_RX8_236 sh_6 rfl rfl dX8_isTaken_12 ?_
    refine X_icmp_ge 96 dX8_isTaken_15 (by decide) h (fun h => ?_) (fun h => ?_)
    · refine X_iconst 0 dX8_isTaken_96 rfl ?_
      exact X_retLP (by decide) dX8_isTaken_97 rfl (Nat.le_refl _) (Nat.le_refl _) h
    · refine X_aload_n (x := 0) dX8_isTaken_18 rfl ?_
      refine X_get (v := .ref 1) kF_RX8_10 sh_0 rfl rfl dX8_isTaken_19 ?_
      refine X_get (v := .ref 6) kF_RX8_109 sh_1 rfl rfl dX8_isTaken_22 ?_
      refine X_iload (x := i5) dX8_isTaken_25 rfl ?_
      refine X_iconst 0 dX8_isTaken_27 rfl ?_
      refine X_vP (μ' := mX6_get) [.int i5, .int 0] [] kL_RX8_98 kM_X6_get rv_6 rfl rfl rfl dX8_isTaken_28 h (fun _ hv => x_X6_get xT_6 hv) (fun v4 h => ?_)
      refine X_iload_n (x := i1) dX8_isTaken_31 rfl ?_
      refine X_icmp_ne 90 dX8_isTaken_32 (by decide) h (fun h => ?_) (fun h => ?_)
      · exact x_X8_isTaken_90 ih h
      · refine X_aload_n (x := 0) dX8_isTaken_35 rfl ?_
        refine X_get (v := .ref 1) kF_RX8_10 sh_0 rfl rfl dX8_isTaken_36 ?_
        refine X_get (v := .ref 6) kF_RX8_109 sh_1 rfl rfl dX8_isTaken_39 ?_
        refine X_iload (x := i5) dX8_isTaken_42 rfl ?_
        refine X_iconst 1 dX8_isTaken_44 rfl ?_
        refine X_vP (μ' := mX6_get) [.int i5, .int 1] [] kL_RX8_98 kM_X6_get rv_6 rfl rfl rfl dX8_isTaken_45 h (fun _ hv => x_X6_get xT_6 hv) (fun v5 h => ?_)
        refine X_iload_n (x := i2) dX8_isTaken_48 rfl ?_
        refine X_iand dX8_isTaken_49 ?_
        refine X_if_eq 90 dX8_isTaken_50 (by decide) h (fun h => ?_) (fun h => ?_)
        · exact x_X8_isTaken_90 ih h
        · refine X_iload_n (x := i3) dX8_isTaken_53 rfl ?_
          refine X_aload_n (x := 0) dX8_isTaken_54 rfl ?_
          refine X_get (v := .ref 1) kF_RX8_10 sh_0 rfl rfl dX8_isTaken_55 ?_
          refine X_get (v := .ref 6) kF_RX8_109 sh_1 rfl rfl dX8_isTaken_58 ?_
          refine X_iload (x := i5) dX8_isTaken_61 rfl ?_
          refine X_iconst 3 dX8_isTaken_63 rfl ?_
          refine X_vP (μ' := mX6_get) [.int i5, .int 3] [.int i3] kL_RX8_98 kM_X6_get rv_6 rfl rfl rfl dX8_isTaken_64 h (fun _ hv => x_X6_get xT_6 hv) (fun v6 h => ?_)
          refine X_icmp_ge 90 dX8_isTaken_67 (by decide) h (fun h => ?_) (fun h => ?_)
          · exact x_X8_isTaken_90 ih h
          · refine X_aload_n (x := 0) dX8_isTaken_70 rfl ?_
            refine X_get (v := .ref 1) kF_RX8_10 sh_0 rfl rfl dX8_isTaken_71 ?_
            refine X_get (v := .ref 6) kF_RX8_109 sh_1 rfl rfl dX8_isTaken_74 ?_
            refine X_iload (x := i5) dX8_isTaken_77 rfl ?_
            refine X_iconst 2 dX8_isTaken_79 rfl ?_
            refine X_vP (μ' := mX6_get) [.int i5, .int 2] [] kL_RX8_98 kM_X6_get rv_6 rfl rfl rfl dX8_isTaken_80 h (fun _ hv => x_X6_get xT_6 hv) (fun v7 h => ?_)
            refine X_iload (x := i4) dX8_isTaken_83 rfl ?_
            refine X_icmp_ge 90 dX8_isTaken_85 (by decide) h (fun h => ?_) (fun h => ?_)
            · exact x_X8_isTaken_90 ih h
            · refine X_iconst 1 dX8_isTaken_88 rfl ?_
              exact X_retLP (by decide) dX8_isTaken_89 rfl (Nat.le_refl _) (Nat.le_refl _) h
def f_X8_isTaken (M : xM) (a1 a2 a3 a4 : Int32) : Option Int32 :=
  xl (0 : Int32) fun v8 =>
  f_X8_isTaken_3 M xFU a1 a2 a3 a4 v8
set_option maxHeartbeats 1000000 in
theorem x_X8_isTaken {ξ : xX} {M : xM} {a1 a2 a3 a4 : Int32} {z : Int32} (h : f_X8_isTaken M a1 a2 a3 a4 = some z) : X ξ mX8_isTaken 0 [.ref 0, .int a1, .int a2, .int a3, .int a4] [] SH M 0 0 (xr (some (.int z)) SH M) := by
  rw [f_X8_isTaken] at h
  refine X_iconst 0 dX8_isTaken_0 rfl ?_
  refine X_istoreL (fun v8 => [.ref 0, .int a1, .int a2, .int a3, .int a4, .int v8]) dX8_isTaken_1 (Nat.le_of_ble_eq_true rfl) (Nat.le_of_ble_eq_true rfl) (xcat1_of rfl) h (fun _ => rfl) (fun v8 h => ?_)
  exact x_X8_isTaken_3 _ _ _ _ _ _ _ h
def f_X8_addRecording (M : xM) (a1 a2 a3 a4 : Int32) : Option (Int32 × xM) :=
  xb (f_X6_has 2 3 56 M a1) fun v3 =>
  if v3 = 0 then (
    some ((-1), M))
  else (
    xb (f_X6_get 2 3 56 M a1 2) fun v4 =>
    xb (f_X3_sideOfSet v4 a2) fun v5 =>
    xl v5 fun v6 =>
    if v6 < 0 then (
      some ((-2), M))
    else (
      xb (f_X6_get 2 3 56 M a1 3) fun v7 =>
      xb (f_X8_isStretch a3 a4 v7) fun v8 =>
      if v8 = 0 then (
        some ((-2), M))
      else (
        xb (f_X6_isFull 6 7 96 M) fun v9 =>
        if v9 = 0 then (
          xb (f_X8_isTaken M a1 a2 a3 a4) fun v10 =>
          if v10 = 0 then (
            xb (f_X1_keep M) fun M11 =>
            xb2 (f_X6_addRow 6 7 96 M11) fun v12 M13 =>
            xl v12 fun v14 =>
            xb (f_X6_set 6 7 96 M13 v14 0 a1) fun M15 =>
            xb (f_X6_set 6 7 96 M15 v14 1 a2) fun M16 =>
            xb (f_X6_set 6 7 96 M16 v14 2 a3) fun M17 =>
            xb (f_X6_set 6 7 96 M17 v14 3 a4) fun M18 =>
            xb (f_X6_set 6 7 96 M18 v14 4 v6) fun M19 =>
            xb (f_X6_add 2 3 56 M19 a1 6 1) fun M20 =>
            some (v14, M20))
          else (
            some ((-3), M)))
        else (
          some ((-4), M)))))
set_option maxHeartbeats 1000000 in
theorem x_X8_addRecording {ξ : xX} {M : xM} {a1 a2 a3 a4 : Int32} {z : (Int32 × xM)} (h : f_X8_addRecording M a1 a2 a3 a4 = some z) : X ξ mX8_addRecording 0 [.ref 0, .int a1, .int a2, .int a3, .int a4] [] SH M 0 0 (xr (some (.int z.1)) SH z.2) := by
  rw [f_X8_addRecording] at h
  refine X_aload_n (x := 0) dX8_addRecording_0 rfl ?_
  refine X_get (v := .ref 1) kF_RX8_10 sh_0 rfl rfl dX8_addRecording_1 ?_
  refine X_get (v := .ref 2) kF_RX8_65 sh_1 rfl rfl dX8_addRecording_4 ?_
  refine X_iload_n (x := a1) dX8_addRecording_7 rfl ?_
  refine X_vP (μ' := mX6_has) [.int a1] [] kL_RX8_94 kM_X6_has rv_2 rfl rfl rfl dX8_addRecording_8 h (fun _ hv => x_X6_has xT_2 hv) (fun v3 h => ?_)
  refine X_if_ne 16 dX8_addRecording_11 (by decide) h (fun h => ?_) (fun h => ?_)
  · refine X_aload_n (x := 0) dX8_addRecording_16 rfl ?_
    refine X_get (v := .ref 1) kF_RX8_10 sh_0 rfl rfl dX8_addRecording_17 ?_
    refine X_get (v := .ref 2) kF_RX8_65 sh_1 rfl rfl dX8_addRecording_20 ?_
    refine X_iload_n (x := a1) dX8_addRecording_23 rfl ?_
    refine X_iconst 2 dX8_addRecording_24 rfl ?_
    refine X_vP (μ' := mX6_get) [.int a1, .int 2] [] kL_RX8_98 kM_X6_get rv_2 rfl rfl rfl dX8_addRecording_25 h (fun _ hv => x_X6_get xT_2 hv) (fun v4 h => ?_)
    refine X_iload_n (x := a2) dX8_addRecording_28 rfl ?_
    refine X_sP (μ' := mX3_sideOfSet) [.int v4, .int a2] [] kL_RX8_101 kM_X3_sideOfSet rfl rfl rfl dX8_addRecording_29 h (fun _ hv => x_X3_sideOfSet hv) (fun v5 h => ?_)
    refine X_istoreL (fun v6 => [.ref 0, .int a1, .int a2, .int a3, .int a4, .int v6]) dX8_addRecording_32 (Nat.le_of_ble_eq_true rfl) (Nat.le_of_ble_eq_true rfl) (xcat1_of rfl) h (fun _ => rfl) (fun v6 h => ?_)
    refine X_iload (x := v6) dX8_addRecording_34 rfl ?_
    refine X_if_lt 60 dX8_addRecording_36 (by decide) h (fun h => ?_) (fun h => ?_)
    · refine X_bipush (-2) dX8_addRecording_60 rfl ?_
      exact X_retI dX8_addRecording_62 rfl (Nat.le_refl _) (Nat.le_refl _) h
    · refine X_iload_n (x := a3) dX8_addRecording_39 rfl ?_
      refine X_iload (x := a4) dX8_addRecording_40 rfl ?_
      refine X_aload_n (x := 0) dX8_addRecording_42 rfl ?_
      refine X_get (v := .ref 1) kF_RX8_10 sh_0 rfl rfl dX8_addRecording_43 ?_
      refine X_get (v := .ref 2) kF_RX8_65 sh_1 rfl rfl dX8_addRecording_46 ?_
      refine X_iload_n (x := a1) dX8_addRecording_49 rfl ?_
      refine X_iconst 3 dX8_addRecording_50 rfl ?_
      refine X_vP (μ' := mX6_get) [.int a1, .int 3] [.int a4, .int a3] kL_RX8_98 kM_X6_get rv_2 rfl rfl rfl dX8_addRecording_51 h (fun _ hv => x_X6_get xT_2 hv) (fun v7 h => ?_)
      refine X_sP (μ' := mX8_isStretch) [.int a3, .int a4, .int v7] [] kL_RX8_106 kM_X8_isStretch rfl rfl rfl dX8_addRecording_54 h (fun _ hv => x_X8_isStretch hv) (fun v8 h => ?_)
      refine X_if_ne 63 dX8_addRecording_57 (by decide) h (fun h => ?_) (fun h => ?_)
      · refine X_aload_n (x := 0) dX8_addRecording_63 rfl ?_
        refine X_get (v := .ref 1) kF_RX8_10 sh_0 rfl rfl dX8_addRecording_64 ?_
        refine X_get (v := .ref 6) kF_RX8_109 sh_1 rfl rfl dX8_addRecording_67 ?_
        refine X_vP (μ' := mX6_isFull) [] [] kL_RX8_69 kM_X6_isFull rv_6 rfl rfl rfl dX8_addRecording_70 h (fun _ hv => x_X6_isFull xT_6 hv) (fun v9 h => ?_)
        refine X_if_eq 79 dX8_addRecording_73 (by decide) h (fun h => ?_) (fun h => ?_)
        · refine X_aload_n (x := 0) dX8_addRecording_79 rfl ?_
          refine X_iload_n (x := a1) dX8_addRecording_80 rfl ?_
          refine X_iload_n (x := a2) dX8_addRecording_81 rfl ?_
          refine X_iload_n (x := a3) dX8_addRecording_82 rfl ?_
          refine X_iload (x := a4) dX8_addRecording_83 rfl ?_
          refine X_vP (μ' := mX8_isTaken) [.int a1, .int a2, .int a3, .int a4] [] kL_RX8_112 kM_X8_isTaken rv_0 rfl rfl rfl dX8_addRecording_85 h (fun _ hv => x_X8_isTaken hv) (fun v10 h => ?_)
          refine X_if_eq 94 dX8_addRecording_88 (by decide) h (fun h => ?_) (fun h => ?_)
          · refine X_aload_n (x := 0) dX8_addRecording_94 rfl ?_
            refine X_get (v := .ref 18) kF_RX8_19 sh_0 rfl rfl dX8_addRecording_95 ?_
            refine X_aload_n (x := 0) dX8_addRecording_98 rfl ?_
            refine X_get (v := .ref 1) kF_RX8_10 sh_0 rfl rfl dX8_addRecording_99 ?_
            refine X_vV (μ' := mX1_keep) [.ref 1] [] kL_RX8_75 kM_X1_keep rv_18 rfl rfl rfl dX8_addRecording_102 h (fun _ hv => x_X1_keep hv) (fun M11 h => ?_)
            refine X_aload_n (x := 0) dX8_addRecording_105 rfl ?_
            refine X_get (v := .ref 1) kF_RX8_10 sh_0 rfl rfl dX8_addRecording_106 ?_
            refine X_get (v := .ref 6) kF_RX8_109 sh_1 rfl rfl dX8_addRecording_109 ?_
            refine X_vI (μ' := mX6_addRow) [] [] kL_RX8_79 kM_X6_addRow rv_6 rfl rfl rfl dX8_addRecording_112 h (fun _ hv => x_X6_addRow xT_6 hv) (fun v12 M13 h => ?_)
            refine X_istoreL (fun v14 => [.ref 0, .int a1, .int a2, .int a3, .int a4, .int v6, .int v14]) dX8_addRecording_115 (Nat.le_of_ble_eq_true rfl) (Nat.le_of_ble_eq_true rfl) (xcat1_of rfl) h (fun _ => rfl) (fun v14 h => ?_)
            refine X_aload_n (x := 0) dX8_addRecording_117 rfl ?_
            refine X_get (v := .ref 1) kF_RX8_10 sh_0 rfl rfl dX8_addRecording_118 ?_
            refine X_get (v := .ref 6) kF_RX8_109 sh_1 rfl rfl dX8_addRecording_121 ?_
            refine X_iload (x := v14) dX8_addRecording_124 rfl ?_
            refine X_iconst 0 dX8_addRecording_126 rfl ?_
            refine X_iload_n (x := a1) dX8_addRecording_127 rfl ?_
            refine X_vV (μ' := mX6_set) [.int v14, .int 0, .int a1] [] kL_RX8_83 kM_X6_set rv_6 rfl rfl rfl dX8_addRecording_128 h (fun _ hv => x_X6_set xT_6 hv) (fun M15 h => ?_)
            refine X_aload_n (x := 0) dX8_addRecording_131 rfl ?_
            refine X_get (v := .ref 1) kF_RX8_10 sh_0 rfl rfl dX8_addRecording_132 ?_
            refine X_get (v := .ref 6) kF_RX8_109 sh_1 rfl rfl dX8_addRecording_135 ?_
            refine X_iload (x := v14) dX8_addRecording_138 rfl ?_
            refine X_iconst 1 dX8_addRecording_140 rfl ?_
            refine X_iload_n (x := a2) dX8_addRecording_141 rfl ?_
            refine X_vV (μ' := mX6_set) [.int v14, .int 1, .int a2] [] kL_RX8_83 kM_X6_set rv_6 rfl rfl rfl dX8_addRecording_142 h (fun _ hv => x_X6_set xT_6 hv) (fun M16 h => ?_)
            refine X_aload_n (x := 0) dX8_addRecording_145 rfl ?_
            refine X_get (v := .ref 1) kF_RX8_10 sh_0 rfl rfl dX8_addRecording_146 ?_
            refine X_get (v := .ref 6) kF_RX8_109 sh_1 rfl rfl dX8_addRecording_149 ?_
            refine X_iload (x := v14) dX8_addRecording_152 rfl ?_
            refine X_iconst 2 dX8_addRecording_154 rfl ?_
            refine X_iload_n (x := a3) dX8_addRecording_155 rfl ?_
            refine X_vV (μ' := mX6_set) [.int v14, .int 2, .int a3] [] kL_RX8_83 kM_X6_set rv_6 rfl rfl rfl dX8_addRecording_156 h (fun _ hv => x_X6_set xT_6 hv) (fun M17 h => ?_)
            refine X_aload_n (x := 0) dX8_addRecording_159 rfl ?_
            refine X_get (v := .ref 1) kF_RX8_10 sh_0 rfl rfl dX8_addRecording_160 ?_
            refine X_get (v := .ref 6) kF_RX8_109 sh_1 rfl rfl dX8_addRecording_163 ?_
            refine X_iload (x := v14) dX8_addRecording_166 rfl ?_
            refine X_iconst 3 dX8_addRecording_168 rfl ?_
            refine X_iload (x := a4) dX8_addRecording_169 rfl ?_
            refine X_vV (μ' := mX6_set) [.int v14, .int 3, .int a4] [] kL_RX8_83 kM_X6_set rv_6 rfl rfl rfl dX8_addRecording_171 h (fun _ hv => x_X6_set xT_6 hv) (fun M18 h => ?_)
            refine X_aload_n (x := 0) dX8_addRecording_174 rfl ?_
            refine X_get (v := .ref 1) kF_RX8_10 sh_0 rfl rfl dX8_addRecording_175 ?_
            refine X_get (v := .ref 6) kF_RX8_109 sh_1 rfl rfl dX8_addRecording_178 ?_
            refine X_iload (x := v14) dX8_addRecording_181 rfl ?_
            refine X_iconst 4 dX8_addRecording_183 rfl ?_
            refine X_iload (x := v6) dX8_addRecording_184 rfl ?_
            refine X_vV (μ' := mX6_set) [.int v14, .int 4, .int v6] [] kL_RX8_83 kM_X6_set rv_6 rfl rfl rfl dX8_addRecording_186 h (fun _ hv => x_X6_set xT_6 hv) (fun M19 h => ?_)
            refine X_aload_n (x := 0) dX8_addRecording_189 rfl ?_
            refine X_get (v := .ref 1) kF_RX8_10 sh_0 rfl rfl dX8_addRecording_190 ?_
            refine X_get (v := .ref 2) kF_RX8_65 sh_1 rfl rfl dX8_addRecording_193 ?_
            refine X_iload_n (x := a1) dX8_addRecording_196 rfl ?_
            refine X_bipush 6 dX8_addRecording_197 rfl ?_
            refine X_iconst 1 dX8_addRecording_199 rfl ?_
            refine X_vV (μ' := mX6_add) [.int a1, .int 6, .int 1] [] kL_RX8_116 kM_X6_add rv_2 rfl rfl rfl dX8_addRecording_200 h (fun _ hv => x_X6_add xT_2 hv) (fun M20 h => ?_)
            refine X_iload (x := v14) dX8_addRecording_203 rfl ?_
            exact X_retI dX8_addRecording_205 rfl (Nat.le_refl _) (Nat.le_refl _) h
          · refine X_bipush (-3) dX8_addRecording_91 rfl ?_
            exact X_retI dX8_addRecording_93 rfl (Nat.le_refl _) (Nat.le_refl _) h
        · refine X_bipush (-4) dX8_addRecording_76 rfl ?_
          exact X_retI dX8_addRecording_78 rfl (Nat.le_refl _) (Nat.le_refl _) h
      · refine X_bipush (-2) dX8_addRecording_60 rfl ?_
        exact X_retI dX8_addRecording_62 rfl (Nat.le_refl _) (Nat.le_refl _) h
  · refine X_iconst (-1) dX8_addRecording_14 rfl ?_
    exact X_retI dX8_addRecording_15 rfl (Nat.le_refl _) (Nat.le_refl _) h
def f_X8_lengthOfRecording (M : xM) (a1 : Int32) : Option Int32 :=
  xb (f_X6_get 6 7 96 M a1 3) fun v1 =>
  xb (f_X6_get 6 7 96 M a1 2) fun v2 =>
  some (v1 - v2)
set_option maxHeartbeats 1000000 in
theorem x_X8_lengthOfRecording {ξ : xX} {M : xM} {a1 : Int32} {z : Int32} (h : f_X8_lengthOfRecording M a1 = some z) : X ξ mX8_lengthOfRecording 0 [.ref 0, .int a1] [] SH M 0 0 (xr (some (.int z)) SH M) := by
  rw [f_X8_lengthOfRecording] at h
  refine X_aload_n (x := 0) dX8_lengthOfRecording_0 rfl ?_
  refine X_get (v := .ref 1) kF_RX8_10 sh_0 rfl rfl dX8_lengthOfRecording_1 ?_
  refine X_get (v := .ref 6) kF_RX8_109 sh_1 rfl rfl dX8_lengthOfRecording_4 ?_
  refine X_iload_n (x := a1) dX8_lengthOfRecording_7 rfl ?_
  refine X_iconst 3 dX8_lengthOfRecording_8 rfl ?_
  refine X_vP (μ' := mX6_get) [.int a1, .int 3] [] kL_RX8_98 kM_X6_get rv_6 rfl rfl rfl dX8_lengthOfRecording_9 h (fun _ hv => x_X6_get xT_6 hv) (fun v1 h => ?_)
  refine X_aload_n (x := 0) dX8_lengthOfRecording_12 rfl ?_
  refine X_get (v := .ref 1) kF_RX8_10 sh_0 rfl rfl dX8_lengthOfRecording_13 ?_
  refine X_get (v := .ref 6) kF_RX8_109 sh_1 rfl rfl dX8_lengthOfRecording_16 ?_
  refine X_iload_n (x := a1) dX8_lengthOfRecording_19 rfl ?_
  refine X_iconst 2 dX8_lengthOfRecording_20 rfl ?_
  refine X_vP (μ' := mX6_get) [.int a1, .int 2] [.int v1] kL_RX8_98 kM_X6_get rv_6 rfl rfl rfl dX8_lengthOfRecording_21 h (fun _ hv => x_X6_get xT_6 hv) (fun v2 h => ?_)
  refine X_isub dX8_lengthOfRecording_24 ?_
  exact X_retP dX8_lengthOfRecording_25 rfl (Nat.le_refl _) (Nat.le_refl _) h
def f_X8_isPerson (a1 : Int32) : Option Int32 :=
  xb (f_X8_isWithin a1 0 7) fun v1 =>
  xgd (xz v1) (some v1)
set_option maxHeartbeats 1000000 in
theorem x_X8_isPerson {ξ : xX} {M : xM} {a1 : Int32} {z : Int32} (h : f_X8_isPerson a1 = some z) : X ξ mX8_isPerson 0 [.int a1] [] SH M 0 0 (xr (some (.int z)) SH M) := by
  rw [f_X8_isPerson] at h
  refine X_iload_n (x := a1) dX8_isPerson_0 rfl ?_
  refine X_iconst 0 dX8_isPerson_1 rfl ?_
  refine X_bipush 7 dX8_isPerson_2 rfl ?_
  refine X_sP (μ' := mX8_isWithin) [.int a1, .int 0, .int 7] [] kL_RX8_61 kM_X8_isWithin rfl rfl rfl dX8_isPerson_4 h (fun _ hv => x_X8_isWithin hv) (fun v1 h => ?_)
  exact X_retZ dX8_isPerson_7 rfl (Nat.le_refl _) (Nat.le_refl _) h
def f_X8_rowOfPart (a1 a2 : Int32) : Option Int32 :=
  some ((a1 * 4) + a2)
set_option maxHeartbeats 1000000 in
theorem x_X8_rowOfPart {ξ : xX} {M : xM} {a1 a2 : Int32} {z : Int32} (h : f_X8_rowOfPart a1 a2 = some z) : X ξ mX8_rowOfPart 0 [.int a1, .int a2] [] SH M 0 0 (xr (some (.int z)) SH M) := by
  rw [f_X8_rowOfPart] at h
  refine X_iload_n (x := a1) dX8_rowOfPart_0 rfl ?_
  refine X_iconst 4 dX8_rowOfPart_1 rfl ?_
  refine X_imul dX8_rowOfPart_2 ?_
  refine X_iload_n (x := a2) dX8_rowOfPart_3 rfl ?_
  refine X_iadd dX8_rowOfPart_4 ?_
  exact X_retP dX8_rowOfPart_5 rfl (Nat.le_refl _) (Nat.le_refl _) h
def f_X8_addPart (M : xM) (a1 a2 a3 a4 a5 : Int32) : Option (Int32 × xM) :=
  xb (f_X6_has 6 7 96 M a1) fun v3 =>
  if v3 = 0 then (
    some ((-1), M))
  else (
    xb (f_X8_lengthOfRecording M a1) fun v4 =>
    xb (f_X8_isStretch a2 a3 v4) fun v5 =>
    if v5 = 0 then (
      some ((-2), M))
    else (
      xb (f_X8_isPerson a4) fun v6 =>
      if v6 = 0 then (
        some ((-2), M))
      else (
        xb (f_X8_isWithin a5 0 9999) fun v7 =>
        if v7 = 0 then (
          some ((-2), M))
        else (
          xb (f_X6_get 6 7 96 M a1 5) fun v8 =>
          xl v8 fun v9 =>
          if v9 < 4 then (
            xb (f_X1_keep M) fun M10 =>
            xb (f_X8_rowOfPart a1 v9) fun v11 =>
            xl v11 fun v12 =>
            xb (f_X6_set 8 9 256 M10 v12 0 a2) fun M13 =>
            xb (f_X6_set 8 9 256 M13 v12 1 a3) fun M14 =>
            xb (f_X6_set 8 9 256 M14 v12 2 a4) fun M15 =>
            xb (f_X6_set 8 9 256 M15 v12 3 a5) fun M16 =>
            xb (f_X6_add 6 7 96 M16 a1 5 1) fun M17 =>
            some (v9, M17))
          else (
            some ((-4), M))))))
set_option maxHeartbeats 1000000 in
theorem x_X8_addPart {ξ : xX} {M : xM} {a1 a2 a3 a4 a5 : Int32} {z : (Int32 × xM)} (h : f_X8_addPart M a1 a2 a3 a4 a5 = some z) : X ξ mX8_addPart 0 [.ref 0, .int a1, .int a2, .int a3, .int a4, .int a5] [] SH M 0 0 (xr (some (.int z.1)) SH z.2) := by
  rw [f_X8_addPart] at h
  refine X_aload_n (x := 0) dX8_addPart_0 rfl ?_
  refine X_get (v := .ref 1) kF_RX8_10 sh_0 rfl rfl dX8_addPart_1 ?_
  refine X_get (v := .ref 6) kF_RX8_109 sh_1 rfl rfl dX8_addPart_4 ?_
  refine X_iload_n (x := a1) dX8_addPart_7 rfl ?_
  refine X_vP (μ' := mX6_has) [.int a1] [] kL_RX8_94 kM_X6_has rv_6 rfl rfl rfl dX8_addPart_8 h (fun _ hv => x_X6_has xT_6 hv) (fun v3 h => ?_)
  refine X_if_ne 16 dX8_addPart_11 (by decide) h (fun h => ?_) (fun h => ?_)
  · refine X_iload_n (x := a2) dX8_addPart_16 rfl ?_
    refine X_iload_n (x := a3) dX8_addPart_17 rfl ?_
    refine X_aload_n (x := 0) dX8_addPart_18 rfl ?_
    refine X_iload_n (x := a1) dX8_addPart_19 rfl ?_
    refine X_vP (μ' := mX8_lengthOfRecording) [.int a1] [.int a3, .int a2] kL_RX8_119 kM_X8_lengthOfRecording rv_0 rfl rfl rfl dX8_addPart_20 h (fun _ hv => x_X8_lengthOfRecording hv) (fun v4 h => ?_)
    refine X_sP (μ' := mX8_isStretch) [.int a2, .int a3, .int v4] [] kL_RX8_106 kM_X8_isStretch rfl rfl rfl dX8_addPart_23 h (fun _ hv => x_X8_isStretch hv) (fun v5 h => ?_)
    refine X_if_eq 49 dX8_addPart_26 (by decide) h (fun h => ?_) (fun h => ?_)
    · refine X_bipush (-2) dX8_addPart_49 rfl ?_
      exact X_retI dX8_addPart_51 rfl (Nat.le_refl _) (Nat.le_refl _) h
    · refine X_iload (x := a4) dX8_addPart_29 rfl ?_
      refine X_sP (μ' := mX8_isPerson) [.int a4] [] kL_RX8_122 kM_X8_isPerson rfl rfl rfl dX8_addPart_31 h (fun _ hv => x_X8_isPerson hv) (fun v6 h => ?_)
      refine X_if_eq 49 dX8_addPart_34 (by decide) h (fun h => ?_) (fun h => ?_)
      · refine X_bipush (-2) dX8_addPart_49 rfl ?_
        exact X_retI dX8_addPart_51 rfl (Nat.le_refl _) (Nat.le_refl _) h
      · refine X_iload (x := a5) dX8_addPart_37 rfl ?_
        refine X_iconst 0 dX8_addPart_39 rfl ?_
        refine X_sipush 9999 dX8_addPart_40 rfl ?_
        refine X_sP (μ' := mX8_isWithin) [.int a5, .int 0, .int 9999] [] kL_RX8_61 kM_X8_isWithin rfl rfl rfl dX8_addPart_43 h (fun _ hv => x_X8_isWithin hv) (fun v7 h => ?_)
        refine X_if_ne 52 dX8_addPart_46 (by decide) h (fun h => ?_) (fun h => ?_)
        · refine X_aload_n (x := 0) dX8_addPart_52 rfl ?_
          refine X_get (v := .ref 1) kF_RX8_10 sh_0 rfl rfl dX8_addPart_53 ?_
          refine X_get (v := .ref 6) kF_RX8_109 sh_1 rfl rfl dX8_addPart_56 ?_
          refine X_iload_n (x := a1) dX8_addPart_59 rfl ?_
          refine X_iconst 5 dX8_addPart_60 rfl ?_
          refine X_vP (μ' := mX6_get) [.int a1, .int 5] [] kL_RX8_98 kM_X6_get rv_6 rfl rfl rfl dX8_addPart_61 h (fun _ hv => x_X6_get xT_6 hv) (fun v8 h => ?_)
          refine X_istoreL (fun v9 => [.ref 0, .int a1, .int a2, .int a3, .int a4, .int a5, .int v9]) dX8_addPart_64 (Nat.le_of_ble_eq_true rfl) (Nat.le_of_ble_eq_true rfl) (xcat1_of rfl) h (fun _ => rfl) (fun v9 h => ?_)
          refine X_iload (x := v9) dX8_addPart_66 rfl ?_
          refine X_iconst 4 dX8_addPart_68 rfl ?_
          refine X_icmp_lt 75 dX8_addPart_69 (by decide) h (fun h => ?_) (fun h => ?_)
          · refine X_aload_n (x := 0) dX8_addPart_75 rfl ?_
            refine X_get (v := .ref 18) kF_RX8_19 sh_0 rfl rfl dX8_addPart_76 ?_
            refine X_aload_n (x := 0) dX8_addPart_79 rfl ?_
            refine X_get (v := .ref 1) kF_RX8_10 sh_0 rfl rfl dX8_addPart_80 ?_
            refine X_vV (μ' := mX1_keep) [.ref 1] [] kL_RX8_75 kM_X1_keep rv_18 rfl rfl rfl dX8_addPart_83 h (fun _ hv => x_X1_keep hv) (fun M10 h => ?_)
            refine X_iload_n (x := a1) dX8_addPart_86 rfl ?_
            refine X_iload (x := v9) dX8_addPart_87 rfl ?_
            refine X_sP (μ' := mX8_rowOfPart) [.int a1, .int v9] [] kL_RX8_125 kM_X8_rowOfPart rfl rfl rfl dX8_addPart_89 h (fun _ hv => x_X8_rowOfPart hv) (fun v11 h => ?_)
            refine X_istoreL (fun v12 => [.ref 0, .int a1, .int a2, .int a3, .int a4, .int a5, .int v9, .int v12]) dX8_addPart_92 (Nat.le_of_ble_eq_true rfl) (Nat.le_of_ble_eq_true rfl) (xcat1_of rfl) h (fun _ => rfl) (fun v12 h => ?_)
            refine X_aload_n (x := 0) dX8_addPart_94 rfl ?_
            refine X_get (v := .ref 1) kF_RX8_10 sh_0 rfl rfl dX8_addPart_95 ?_
            refine X_get (v := .ref 8) kF_RX8_128 sh_1 rfl rfl dX8_addPart_98 ?_
            refine X_iload (x := v12) dX8_addPart_101 rfl ?_
            refine X_iconst 0 dX8_addPart_103 rfl ?_
            refine X_iload_n (x := a2) dX8_addPart_104 rfl ?_
            refine X_vV (μ' := mX6_set) [.int v12, .int 0, .int a2] [] kL_RX8_83 kM_X6_set rv_8 rfl rfl rfl dX8_addPart_105 h (fun _ hv => x_X6_set xT_8 hv) (fun M13 h => ?_)
            refine X_aload_n (x := 0) dX8_addPart_108 rfl ?_
            refine X_get (v := .ref 1) kF_RX8_10 sh_0 rfl rfl dX8_addPart_109 ?_
            refine X_get (v := .ref 8) kF_RX8_128 sh_1 rfl rfl dX8_addPart_112 ?_
            refine X_iload (x := v12) dX8_addPart_115 rfl ?_
            refine X_iconst 1 dX8_addPart_117 rfl ?_
            refine X_iload_n (x := a3) dX8_addPart_118 rfl ?_
            refine X_vV (μ' := mX6_set) [.int v12, .int 1, .int a3] [] kL_RX8_83 kM_X6_set rv_8 rfl rfl rfl dX8_addPart_119 h (fun _ hv => x_X6_set xT_8 hv) (fun M14 h => ?_)
            refine X_aload_n (x := 0) dX8_addPart_122 rfl ?_
            refine X_get (v := .ref 1) kF_RX8_10 sh_0 rfl rfl dX8_addPart_123 ?_
            refine X_get (v := .ref 8) kF_RX8_128 sh_1 rfl rfl dX8_addPart_126 ?_
            refine X_iload (x := v12) dX8_addPart_129 rfl ?_
            refine X_iconst 2 dX8_addPart_131 rfl ?_
            refine X_iload (x := a4) dX8_addPart_132 rfl ?_
            refine X_vV (μ' := mX6_set) [.int v12, .int 2, .int a4] [] kL_RX8_83 kM_X6_set rv_8 rfl rfl rfl dX8_addPart_134 h (fun _ hv => x_X6_set xT_8 hv) (fun M15 h => ?_)
            refine X_aload_n (x := 0) dX8_addPart_137 rfl ?_
            refine X_get (v := .ref 1) kF_RX8_10 sh_0 rfl rfl dX8_addPart_138 ?_
            refine X_get (v := .ref 8) kF_RX8_128 sh_1 rfl rfl dX8_addPart_141 ?_
            refine X_iload (x := v12) dX8_addPart_144 rfl ?_
            refine X_iconst 3 dX8_addPart_146 rfl ?_
            refine X_iload (x := a5) dX8_addPart_147 rfl ?_
            refine X_vV (μ' := mX6_set) [.int v12, .int 3, .int a5] [] kL_RX8_83 kM_X6_set rv_8 rfl rfl rfl dX8_addPart_149 h (fun _ hv => x_X6_set xT_8 hv) (fun M16 h => ?_)
            refine X_aload_n (x := 0) dX8_addPart_152 rfl ?_
            refine X_get (v := .ref 1) kF_RX8_10 sh_0 rfl rfl dX8_addPart_153 ?_
            refine X_get (v := .ref 6) kF_RX8_109 sh_1 rfl rfl dX8_addPart_156 ?_
            refine X_iload_n (x := a1) dX8_addPart_159 rfl ?_
            refine X_iconst 5 dX8_addPart_160 rfl ?_
            refine X_iconst 1 dX8_addPart_161 rfl ?_
            refine X_vV (μ' := mX6_add) [.int a1, .int 5, .int 1] [] kL_RX8_116 kM_X6_add rv_6 rfl rfl rfl dX8_addPart_162 h (fun _ hv => x_X6_add xT_6 hv) (fun M17 h => ?_)
            refine X_iload (x := v9) dX8_addPart_165 rfl ?_
            exact X_retI dX8_addPart_167 rfl (Nat.le_refl _) (Nat.le_refl _) h
          · refine X_bipush (-4) dX8_addPart_72 rfl ?_
            exact X_retI dX8_addPart_74 rfl (Nat.le_refl _) (Nat.le_refl _) h
        · refine X_bipush (-2) dX8_addPart_49 rfl ?_
          exact X_retI dX8_addPart_51 rfl (Nat.le_refl _) (Nat.le_refl _) h
  · refine X_iconst (-1) dX8_addPart_14 rfl ?_
    exact X_retI dX8_addPart_15 rfl (Nat.le_refl _) (Nat.le_refl _) h
def f_X8_canPlay (M : xM) (a1 a2 : Int32) : Option Int32 :=
  xb (f_X6_get 4 5 24 M a1 0) fun v2 =>
  xb (f_X2_numberOfSpeed v2 a2) fun v3 =>
  xl v3 fun v4 =>
  if v4 < 0 then (
    some 0)
  else (
    xb (f_X6_get 4 5 24 M a1 1) fun v5 =>
    if (v5 &&& ((1 : Int32) <<< ((v4 : Int32) &&& 31))) = 0 then (
      some 0)
    else (
      some 1))
set_option maxHeartbeats 1000000 in
theorem x_X8_canPlay {ξ : xX} {M : xM} {a1 a2 : Int32} {z : Int32} (h : f_X8_canPlay M a1 a2 = some z) : X ξ mX8_canPlay 0 [.ref 0, .int a1, .int a2] [] SH M 0 0 (xr (some (.int z)) SH M) := by
  rw [f_X8_canPlay] at h
  refine X_aload_n (x := 0) dX8_canPlay_0 rfl ?_
  refine X_get (v := .ref 1) kF_RX8_10 sh_0 rfl rfl dX8_canPlay_1 ?_
  refine X_get (v := .ref 4) kF_RX8_91 sh_1 rfl rfl dX8_canPlay_4 ?_
  refine X_iload_n (x := a1) dX8_canPlay_7 rfl ?_
  refine X_iconst 0 dX8_canPlay_8 rfl ?_
  refine X_vP (μ' := mX6_get) [.int a1, .int 0] [] kL_RX8_98 kM_X6_get rv_4 rfl rfl rfl dX8_canPlay_9 h (fun _ hv => x_X6_get xT_4 hv) (fun v2 h => ?_)
  refine X_iload_n (x := a2) dX8_canPlay_12 rfl ?_
  refine X_sP (μ' := mX2_numberOfSpeed) [.int v2, .int a2] [] kL_RX8_57 kM_X2_numberOfSpeed rfl rfl rfl dX8_canPlay_13 h (fun _ hv => x_X2_numberOfSpeed hv) (fun v3 h => ?_)
  refine X_istoreL_n (fun v4 => [.ref 0, .int a1, .int a2, .int v4]) dX8_canPlay_16 (Nat.le_of_ble_eq_true rfl) (Nat.le_of_ble_eq_true rfl) (xcat1_of rfl) h (fun _ => rfl) (fun v4 h => ?_)
  refine X_iload_n (x := v4) dX8_canPlay_17 rfl ?_
  refine X_if_lt 44 dX8_canPlay_18 (by decide) h (fun h => ?_) (fun h => ?_)
  · refine X_iconst 0 dX8_canPlay_44 rfl ?_
    exact X_retLP (by decide) dX8_canPlay_45 rfl (Nat.le_refl _) (Nat.le_refl _) h
  · refine X_aload_n (x := 0) dX8_canPlay_21 rfl ?_
    refine X_get (v := .ref 1) kF_RX8_10 sh_0 rfl rfl dX8_canPlay_22 ?_
    refine X_get (v := .ref 4) kF_RX8_91 sh_1 rfl rfl dX8_canPlay_25 ?_
    refine X_iload_n (x := a1) dX8_canPlay_28 rfl ?_
    refine X_iconst 1 dX8_canPlay_29 rfl ?_
    refine X_vP (μ' := mX6_get) [.int a1, .int 1] [] kL_RX8_98 kM_X6_get rv_4 rfl rfl rfl dX8_canPlay_30 h (fun _ hv => x_X6_get xT_4 hv) (fun v5 h => ?_)
    refine X_iconst 1 dX8_canPlay_33 rfl ?_
    refine X_iload_n (x := v4) dX8_canPlay_34 rfl ?_
    refine X_ishl dX8_canPlay_35 ?_
    refine X_iand dX8_canPlay_36 ?_
    refine X_if_eq 44 dX8_canPlay_37 (by decide) h (fun h => ?_) (fun h => ?_)
    · refine X_iconst 0 dX8_canPlay_44 rfl ?_
      exact X_retLP (by decide) dX8_canPlay_45 rfl (Nat.le_refl _) (Nat.le_refl _) h
    · refine X_iconst 1 dX8_canPlay_40 rfl ?_
      refine X_goto 45 dX8_canPlay_41 (by decide) ?_
      exact X_retLP (by decide) dX8_canPlay_45 rfl (Nat.le_refl _) (Nat.le_refl _) h
def f_X8_isSide (a1 : Int32) : Option Int32 :=
  xb (f_X8_isWithin a1 0 1) fun v1 =>
  xgd (xz v1) (some v1)
set_option maxHeartbeats 1000000 in
theorem x_X8_isSide {ξ : xX} {M : xM} {a1 : Int32} {z : Int32} (h : f_X8_isSide a1 = some z) : X ξ mX8_isSide 0 [.int a1] [] SH M 0 0 (xr (some (.int z)) SH M) := by
  rw [f_X8_isSide] at h
  refine X_iload_n (x := a1) dX8_isSide_0 rfl ?_
  refine X_iconst 0 dX8_isSide_1 rfl ?_
  refine X_iconst 1 dX8_isSide_2 rfl ?_
  refine X_sP (μ' := mX8_isWithin) [.int a1, .int 0, .int 1] [] kL_RX8_61 kM_X8_isWithin rfl rfl rfl dX8_isSide_3 h (fun _ hv => x_X8_isWithin hv) (fun v1 h => ?_)
  exact X_retZ dX8_isSide_6 rfl (Nat.le_refl _) (Nat.le_refl _) h
def f_X8_isSameKind (M : xM) (a1 a2 : Int32) : Option Int32 :=
  xb (f_X6_get 2 3 56 M a1 0) fun v1 =>
  xb (f_X6_get 4 5 24 M a2 0) fun v2 =>
  if v1 = v2 then (
    some 1)
  else (
    some 0)
set_option maxHeartbeats 1000000 in
theorem x_X8_isSameKind {ξ : xX} {M : xM} {a1 a2 : Int32} {z : Int32} (h : f_X8_isSameKind M a1 a2 = some z) : X ξ mX8_isSameKind 0 [.ref 0, .int a1, .int a2] [] SH M 0 0 (xr (some (.int z)) SH M) := by
  rw [f_X8_isSameKind] at h
  refine X_aload_n (x := 0) dX8_isSameKind_0 rfl ?_
  refine X_get (v := .ref 1) kF_RX8_10 sh_0 rfl rfl dX8_isSameKind_1 ?_
  refine X_get (v := .ref 2) kF_RX8_65 sh_1 rfl rfl dX8_isSameKind_4 ?_
  refine X_iload_n (x := a1) dX8_isSameKind_7 rfl ?_
  refine X_iconst 0 dX8_isSameKind_8 rfl ?_
  refine X_vP (μ' := mX6_get) [.int a1, .int 0] [] kL_RX8_98 kM_X6_get rv_2 rfl rfl rfl dX8_isSameKind_9 h (fun _ hv => x_X6_get xT_2 hv) (fun v1 h => ?_)
  refine X_aload_n (x := 0) dX8_isSameKind_12 rfl ?_
  refine X_get (v := .ref 1) kF_RX8_10 sh_0 rfl rfl dX8_isSameKind_13 ?_
  refine X_get (v := .ref 4) kF_RX8_91 sh_1 rfl rfl dX8_isSameKind_16 ?_
  refine X_iload_n (x := a2) dX8_isSameKind_19 rfl ?_
  refine X_iconst 0 dX8_isSameKind_20 rfl ?_
  refine X_vP (μ' := mX6_get) [.int a2, .int 0] [.int v1] kL_RX8_98 kM_X6_get rv_4 rfl rfl rfl dX8_isSameKind_21 h (fun _ hv => x_X6_get xT_4 hv) (fun v2 h => ?_)
  refine X_icmp_ne 31 dX8_isSameKind_24 (by decide) h (fun h => ?_) (fun h => ?_)
  · refine X_iconst 0 dX8_isSameKind_31 rfl ?_
    exact X_retLP (by decide) dX8_isSameKind_32 rfl (Nat.le_refl _) (Nat.le_refl _) h
  · refine X_iconst 1 dX8_isSameKind_27 rfl ?_
    refine X_goto 32 dX8_isSameKind_28 (by decide) ?_
    exact X_retLP (by decide) dX8_isSameKind_32 rfl (Nat.le_refl _) (Nat.le_refl _) h
def f_X8_playsOfPass (M : xM) (a1 a2 : Int32) : Option Int32 :=
  xb (f_X6_get 2 3 56 M a1 1) fun v1 =>
  if a2 ≤ v1 then (
    some 1)
  else (
    some 2)
set_option maxHeartbeats 1000000 in
theorem x_X8_playsOfPass {ξ : xX} {M : xM} {a1 a2 : Int32} {z : Int32} (h : f_X8_playsOfPass M a1 a2 = some z) : X ξ mX8_playsOfPass 0 [.ref 0, .int a1, .int a2] [] SH M 0 0 (xr (some (.int z)) SH M) := by
  rw [f_X8_playsOfPass] at h
  refine X_iload_n (x := a2) dX8_playsOfPass_0 rfl ?_
  refine X_aload_n (x := 0) dX8_playsOfPass_1 rfl ?_
  refine X_get (v := .ref 1) kF_RX8_10 sh_0 rfl rfl dX8_playsOfPass_2 ?_
  refine X_get (v := .ref 2) kF_RX8_65 sh_1 rfl rfl dX8_playsOfPass_5 ?_
  refine X_iload_n (x := a1) dX8_playsOfPass_8 rfl ?_
  refine X_iconst 1 dX8_playsOfPass_9 rfl ?_
  refine X_vP (μ' := mX6_get) [.int a1, .int 1] [.int a2] kL_RX8_98 kM_X6_get rv_2 rfl rfl rfl dX8_playsOfPass_10 h (fun _ hv => x_X6_get xT_2 hv) (fun v1 h => ?_)
  refine X_icmp_le 20 dX8_playsOfPass_13 (by decide) h (fun h => ?_) (fun h => ?_)
  · refine X_iconst 1 dX8_playsOfPass_20 rfl ?_
    exact X_retP dX8_playsOfPass_21 rfl (Nat.le_refl _) (Nat.le_refl _) h
  · refine X_iconst 2 dX8_playsOfPass_16 rfl ?_
    refine X_goto 21 dX8_playsOfPass_17 (by decide) ?_
    exact X_retP dX8_playsOfPass_21 rfl (Nat.le_refl _) (Nat.le_refl _) h
def f_X8_secondsOfPass (M : xM) (a1 a2 : Int32) : Option Int32 :=
  if 0 < a2 then (
    xb (f_X6_get 2 3 56 M a1 3) fun v2 =>
    xb (f_X6_get 2 3 56 M a1 1) fun v3 =>
    xl (v2 * v3) fun v4 =>
    if a2 = 0 then none else
    some (((v4 + a2) - 1) / a2))
  else (
    some 0)
set_option maxHeartbeats 1000000 in
theorem x_X8_secondsOfPass {ξ : xX} {M : xM} {a1 a2 : Int32} {z : Int32} (h : f_X8_secondsOfPass M a1 a2 = some z) : X ξ mX8_secondsOfPass 0 [.ref 0, .int a1, .int a2] [] SH M 0 0 (xr (some (.int z)) SH M) := by
  rw [f_X8_secondsOfPass] at h
  refine X_iload_n (x := a2) dX8_secondsOfPass_0 rfl ?_
  refine X_if_gt 6 dX8_secondsOfPass_1 (by decide) h (fun h => ?_) (fun h => ?_)
  · refine X_aload_n (x := 0) dX8_secondsOfPass_6 rfl ?_
    refine X_get (v := .ref 1) kF_RX8_10 sh_0 rfl rfl dX8_secondsOfPass_7 ?_
    refine X_get (v := .ref 2) kF_RX8_65 sh_1 rfl rfl dX8_secondsOfPass_10 ?_
    refine X_iload_n (x := a1) dX8_secondsOfPass_13 rfl ?_
    refine X_iconst 3 dX8_secondsOfPass_14 rfl ?_
    refine X_vP (μ' := mX6_get) [.int a1, .int 3] [] kL_RX8_98 kM_X6_get rv_2 rfl rfl rfl dX8_secondsOfPass_15 h (fun _ hv => x_X6_get xT_2 hv) (fun v2 h => ?_)
    refine X_aload_n (x := 0) dX8_secondsOfPass_18 rfl ?_
    refine X_get (v := .ref 1) kF_RX8_10 sh_0 rfl rfl dX8_secondsOfPass_19 ?_
    refine X_get (v := .ref 2) kF_RX8_65 sh_1 rfl rfl dX8_secondsOfPass_22 ?_
    refine X_iload_n (x := a1) dX8_secondsOfPass_25 rfl ?_
    refine X_iconst 1 dX8_secondsOfPass_26 rfl ?_
    refine X_vP (μ' := mX6_get) [.int a1, .int 1] [.int v2] kL_RX8_98 kM_X6_get rv_2 rfl rfl rfl dX8_secondsOfPass_27 h (fun _ hv => x_X6_get xT_2 hv) (fun v3 h => ?_)
    refine X_imul dX8_secondsOfPass_30 ?_
    refine X_istoreL_n (fun v4 => [.ref 0, .int a1, .int a2, .int v4]) dX8_secondsOfPass_31 (Nat.le_of_ble_eq_true rfl) (Nat.le_of_ble_eq_true rfl) (xcat1_of rfl) h (fun _ => rfl) (fun v4 h => ?_)
    refine X_iload_n (x := v4) dX8_secondsOfPass_32 rfl ?_
    refine X_iload_n (x := a2) dX8_secondsOfPass_33 rfl ?_
    refine X_iadd dX8_secondsOfPass_34 ?_
    refine X_iconst 1 dX8_secondsOfPass_35 rfl ?_
    refine X_isub dX8_secondsOfPass_36 ?_
    refine X_iload_n (x := a2) dX8_secondsOfPass_37 rfl ?_
    refine X_idivG dX8_secondsOfPass_38 h (fun h => ?_)
    exact X_retP dX8_secondsOfPass_39 rfl (Nat.le_refl _) (Nat.le_refl _) h
  · refine X_iconst 0 dX8_secondsOfPass_4 rfl ?_
    exact X_retP dX8_secondsOfPass_5 rfl (Nat.le_refl _) (Nat.le_refl _) h
def f_X8_captureNow (M : xM) (a1 a2 a3 a4 a5 : Int32) : Option Int32 :=
  xb (f_X6_get 2 3 56 M a1 1) fun v6 =>
  xl v6 fun v7 =>
  xb (f_X6_get 2 3 56 M a1 2) fun v8 =>
  xb (f_X3_stripsOfTrack v8 a5) fun v9 =>
  xl v9 fun v10 =>
  xb (f_X6_get 4 5 24 M a2 2) fun v11 =>
  xb (f_X3_mostRead v11 a4 v10) fun v12 =>
  xl v12 fun v13 =>
  xb (f_J6_bitCount_0f7a4 v10) fun v14 =>
  xl (v14 * (xmx a3 v7)) fun v15 =>
  if 0 < v15 then (
    xb (f_X6_get 4 5 24 M a2 3) fun v16 =>
    if v15 = 0 then none else
    xl (((v16 * v13) * (xmn a3 v7)) / v15) fun v17 =>
    xb (f_X6_get 2 3 56 M a1 5) fun v18 =>
    some (xmx 0 (v17 - v18)))
  else (
    some 0)
set_option maxHeartbeats 1000000 in
theorem x_X8_captureNow {ξ : xX} {M : xM} {a1 a2 a3 a4 a5 : Int32} {z : Int32} (h : f_X8_captureNow M a1 a2 a3 a4 a5 = some z) : X ξ mX8_captureNow 0 [.ref 0, .int a1, .int a2, .int a3, .int a4, .int a5] [] SH M 0 0 (xr (some (.int z)) SH M) := by
  rw [f_X8_captureNow] at h
  refine X_aload_n (x := 0) dX8_captureNow_0 rfl ?_
  refine X_get (v := .ref 1) kF_RX8_10 sh_0 rfl rfl dX8_captureNow_1 ?_
  refine X_get (v := .ref 2) kF_RX8_65 sh_1 rfl rfl dX8_captureNow_4 ?_
  refine X_iload_n (x := a1) dX8_captureNow_7 rfl ?_
  refine X_iconst 1 dX8_captureNow_8 rfl ?_
  refine X_vP (μ' := mX6_get) [.int a1, .int 1] [] kL_RX8_98 kM_X6_get rv_2 rfl rfl rfl dX8_captureNow_9 h (fun _ hv => x_X6_get xT_2 hv) (fun v6 h => ?_)
  refine X_istoreL (fun v7 => [.ref 0, .int a1, .int a2, .int a3, .int a4, .int a5, .int v7]) dX8_captureNow_12 (Nat.le_of_ble_eq_true rfl) (Nat.le_of_ble_eq_true rfl) (xcat1_of rfl) h (fun _ => rfl) (fun v7 h => ?_)
  refine X_aload_n (x := 0) dX8_captureNow_14 rfl ?_
  refine X_get (v := .ref 1) kF_RX8_10 sh_0 rfl rfl dX8_captureNow_15 ?_
  refine X_get (v := .ref 2) kF_RX8_65 sh_1 rfl rfl dX8_captureNow_18 ?_
  refine X_iload_n (x := a1) dX8_captureNow_21 rfl ?_
  refine X_iconst 2 dX8_captureNow_22 rfl ?_
  refine X_vP (μ' := mX6_get) [.int a1, .int 2] [] kL_RX8_98 kM_X6_get rv_2 rfl rfl rfl dX8_captureNow_23 h (fun _ hv => x_X6_get xT_2 hv) (fun v8 h => ?_)
  refine X_iload (x := a5) dX8_captureNow_26 rfl ?_
  refine X_sP (μ' := mX3_stripsOfTrack) [.int v8, .int a5] [] kL_RX8_307 kM_X3_stripsOfTrack rfl rfl rfl dX8_captureNow_28 h (fun _ hv => x_X3_stripsOfTrack hv) (fun v9 h => ?_)
  refine X_istoreL (fun v10 => [.ref 0, .int a1, .int a2, .int a3, .int a4, .int a5, .int v7, .int v10]) dX8_captureNow_31 (Nat.le_of_ble_eq_true rfl) (Nat.le_of_ble_eq_true rfl) (xcat1_of rfl) h (fun _ => rfl) (fun v10 h => ?_)
  refine X_aload_n (x := 0) dX8_captureNow_33 rfl ?_
  refine X_get (v := .ref 1) kF_RX8_10 sh_0 rfl rfl dX8_captureNow_34 ?_
  refine X_get (v := .ref 4) kF_RX8_91 sh_1 rfl rfl dX8_captureNow_37 ?_
  refine X_iload_n (x := a2) dX8_captureNow_40 rfl ?_
  refine X_iconst 2 dX8_captureNow_41 rfl ?_
  refine X_vP (μ' := mX6_get) [.int a2, .int 2] [] kL_RX8_98 kM_X6_get rv_4 rfl rfl rfl dX8_captureNow_42 h (fun _ hv => x_X6_get xT_4 hv) (fun v11 h => ?_)
  refine X_iload (x := a4) dX8_captureNow_45 rfl ?_
  refine X_iload (x := v10) dX8_captureNow_47 rfl ?_
  refine X_sP (μ' := mX3_mostRead) [.int v11, .int a4, .int v10] [] kL_RX8_310 kM_X3_mostRead rfl rfl rfl dX8_captureNow_49 h (fun _ hv => x_X3_mostRead hv) (fun v12 h => ?_)
  refine X_istoreL (fun v13 => [.ref 0, .int a1, .int a2, .int a3, .int a4, .int a5, .int v7, .int v10, .int v13]) dX8_captureNow_52 (Nat.le_of_ble_eq_true rfl) (Nat.le_of_ble_eq_true rfl) (xcat1_of rfl) h (fun _ => rfl) (fun v13 h => ?_)
  refine X_iload (x := v10) dX8_captureNow_54 rfl ?_
  refine X_sP (μ' := mJ6_bitCount_0f7a4) [.int v10] [] kL_RX8_314 kM_J6_bitCount_0f7a4 rfl rfl rfl dX8_captureNow_56 h (fun _ hv => x_J6_bitCount_0f7a4 hv) (fun v14 h => ?_)
  refine X_iload_n (x := a3) dX8_captureNow_59 rfl ?_
  refine X_iload (x := v7) dX8_captureNow_60 rfl ?_
  refine X_max kJ_RX8_319 (Nat.le_of_ble_eq_true rfl) (Nat.le_of_ble_eq_true rfl) (Nat.le_refl _) (Nat.le_refl _) dX8_captureNow_62 ?_
  refine X_imul dX8_captureNow_65 ?_
  refine X_istoreL (fun v15 => [.ref 0, .int a1, .int a2, .int a3, .int a4, .int a5, .int v7, .int v10, .int v13, .int v15]) dX8_captureNow_66 (Nat.le_of_ble_eq_true rfl) (Nat.le_of_ble_eq_true rfl) (xcat1_of rfl) h (fun _ => rfl) (fun v15 h => ?_)
  refine X_iload (x := v15) dX8_captureNow_68 rfl ?_
  refine X_if_gt 75 dX8_captureNow_70 (by decide) h (fun h => ?_) (fun h => ?_)
  · refine X_aload_n (x := 0) dX8_captureNow_75 rfl ?_
    refine X_get (v := .ref 1) kF_RX8_10 sh_0 rfl rfl dX8_captureNow_76 ?_
    refine X_get (v := .ref 4) kF_RX8_91 sh_1 rfl rfl dX8_captureNow_79 ?_
    refine X_iload_n (x := a2) dX8_captureNow_82 rfl ?_
    refine X_iconst 3 dX8_captureNow_83 rfl ?_
    refine X_vP (μ' := mX6_get) [.int a2, .int 3] [] kL_RX8_98 kM_X6_get rv_4 rfl rfl rfl dX8_captureNow_84 h (fun _ hv => x_X6_get xT_4 hv) (fun v16 h => ?_)
    refine X_iload (x := v13) dX8_captureNow_87 rfl ?_
    refine X_imul dX8_captureNow_89 ?_
    refine X_iload_n (x := a3) dX8_captureNow_90 rfl ?_
    refine X_iload (x := v7) dX8_captureNow_91 rfl ?_
    refine X_min kJ_RX8_155 (Nat.le_of_ble_eq_true rfl) (Nat.le_of_ble_eq_true rfl) (Nat.le_refl _) (Nat.le_refl _) dX8_captureNow_93 ?_
    refine X_imul dX8_captureNow_96 ?_
    refine X_iload (x := v15) dX8_captureNow_97 rfl ?_
    refine X_idivG dX8_captureNow_99 h (fun h => ?_)
    refine X_istoreL (fun v17 => [.ref 0, .int a1, .int a2, .int a3, .int a4, .int a5, .int v7, .int v10, .int v13, .int v15, .int v17]) dX8_captureNow_100 (Nat.le_of_ble_eq_true rfl) (Nat.le_of_ble_eq_true rfl) (xcat1_of rfl) h (fun _ => rfl) (fun v17 h => ?_)
    refine X_iconst 0 dX8_captureNow_102 rfl ?_
    refine X_iload (x := v17) dX8_captureNow_103 rfl ?_
    refine X_aload_n (x := 0) dX8_captureNow_105 rfl ?_
    refine X_get (v := .ref 1) kF_RX8_10 sh_0 rfl rfl dX8_captureNow_106 ?_
    refine X_get (v := .ref 2) kF_RX8_65 sh_1 rfl rfl dX8_captureNow_109 ?_
    refine X_iload_n (x := a1) dX8_captureNow_112 rfl ?_
    refine X_iconst 5 dX8_captureNow_113 rfl ?_
    refine X_vP (μ' := mX6_get) [.int a1, .int 5] [.int v17, .int 0] kL_RX8_98 kM_X6_get rv_2 rfl rfl rfl dX8_captureNow_114 h (fun _ hv => x_X6_get xT_2 hv) (fun v18 h => ?_)
    refine X_isub dX8_captureNow_117 ?_
    refine X_max kJ_RX8_319 (Nat.le_of_ble_eq_true rfl) (Nat.le_of_ble_eq_true rfl) (Nat.le_refl _) (Nat.le_refl _) dX8_captureNow_118 ?_
    exact X_retP dX8_captureNow_121 rfl (Nat.le_refl _) (Nat.le_refl _) h
  · refine X_iconst 0 dX8_captureNow_73 rfl ?_
    exact X_retP dX8_captureNow_74 rfl (Nat.le_refl _) (Nat.le_refl _) h
def f_X8_tracksHeard_37 (M : xM) (k6 : Int32 → Int32 → Int32 → Int32 → Int32 → Int32 → Int32 → Option Int32) (i1 : Int32) (i2 : Int32) (i3 : Int32) (i4 : Int32) (i5 : Int32) (i6 : Int32) (i7 : Int32) : Option Int32 :=
  xl (i7 + 1) fun v5 =>
  k6 i1 i2 i3 i4 i5 i6 v5
set_option maxHeartbeats 1000000 in
theorem x_X8_tracksHeard_37 {ξ : xX} {M : xM} {k6 : Int32 → Int32 → Int32 → Int32 → Int32 → Int32 → Int32 → Option Int32} {i1 : Int32} {i2 : Int32} {i3 : Int32} {i4 : Int32} {i5 : Int32} {i6 : Int32} {i7 : Int32} (hk6 : ∀ (j1 j2 j3 j4 j5 j6 j7 : Int32) (z : Int32), k6 j1 j2 j3 j4 j5 j6 j7 = some z → X ξ mX8_tracksHeard 6 [.ref 0, .int j1, .int j2, .int j3, .int j4, .int j5, .int j6, .int j7] [] SH M 0 0 (xr (some (.int z)) SH M)) {z : Int32} (h : f_X8_tracksHeard_37 M k6 i1 i2 i3 i4 i5 i6 i7 = some z) : X ξ mX8_tracksHeard 37 [.ref 0, .int i1, .int i2, .int i3, .int i4, .int i5, .int i6, .int i7] [] SH M 0 0 (xr (some (.int z)) SH M) := by
  rw [f_X8_tracksHeard_37] at h
  refine X_iincL (x := i7) 1 (fun v5 => [.ref 0, .int i1, .int i2, .int i3, .int i4, .int i5, .int i6, .int v5]) dX8_tracksHeard_37 rfl rfl (Nat.le_of_ble_eq_true rfl) (xcat1_of rfl) h (fun _ => rfl) (fun v5 h => ?_)
  refine X_goto 6 dX8_tracksHeard_40 (by decide) ?_
  exact hk6 _ _ _ _ _ _ _ _ h
def f_X8_tracksHeard_6 (M : xM) : Nat → Int32 → Int32 → Int32 → Int32 → Int32 → Int32 → Int32 → Option Int32
  | 0, _, _, _, _, _, _, _ => none
  | fu + 1, i1, i2, i3, i4, i5, i6, i7 =>
    if 4 ≤ i7 then (
      some i6)
    else (
      xb (f_X8_captureNow M i1 i2 i3 i4 i7) fun v6 =>
      if v6 < i5 then (
        f_X8_tracksHeard_37 M (f_X8_tracksHeard_6 M fu) i1 i2 i3 i4 i5 i6 i7)
      else (
        xl (i6 ||| ((1 : Int32) <<< ((i7 : Int32) &&& 31))) fun v7 =>
        f_X8_tracksHeard_37 M (f_X8_tracksHeard_6 M fu) i1 i2 i3 i4 i5 v7 i7))
set_option maxHeartbeats 1000000 in
theorem x_X8_tracksHeard_6 {ξ : xX} {M : xM} : ∀ (fu : Nat) (i1 i2 i3 i4 i5 i6 i7 : Int32) (z : Int32), f_X8_tracksHeard_6 M fu i1 i2 i3 i4 i5 i6 i7 = some z → X ξ mX8_tracksHeard 6 [.ref 0, .int i1, .int i2, .int i3, .int i4, .int i5, .int i6, .int i7] [] SH M 0 0 (xr (some (.int z)) SH M) := by
  intro fu
  induction fu with
  | zero => intro i1 i2 i3 i4 i5 i6 i7 z h; rw [f_X8_tracksHeard_6] at h; cases h
  | succ fu ih =>
    intro i1 i2 i3 i4 i5 i6 i7 z h
    rw [f_X8_tracksHeard_6] at h
    refine X_iload (x := i7) dX8_tracksHeard_6 rfl ?_
    refine X_iconst 4 dX8_tracksHeard_8 rfl ?_
    refine X_icmp_ge 43 dX8_tracksHeard_9 (by decide) h (fun h => ?_) (fun h => ?_)
    · refine X_iload (x := i6) dX8_tracksHeard_43 rfl ?_
      exact X_retP dX8_tracksHeard_45 rfl (Nat.le_refl _) (Nat.le_refl _) h
    · refine X_aload_n (x := 0) dX8_tracksHeard_12 rfl ?_
      refine X_iload_n (x := i1) dX8_tracksHeard_13 rfl ?_
      refine X_iload_n (x := i2) dX8_tracksHeard_14 rfl ?_
      refine X_iload_n (x := i3) dX8_tracksHeard_15 rfl ?_
      refine X_iload (x := i4) dX8_tracksHeard_16 rfl ?_
      refine X_iload (x := i7) dX8_tracksHeard_18 rfl ?_
      refine X_vP (μ' := mX8_captureNow) [.int i1, .int i2, .int i3, .int i4, .int i7] [] kL_RX8_254 kM_X8_captureNow rv_0 rfl rfl rfl dX8_tracksHeard_20 h (fun _ hv => x_X8_captureNow hv) (fun v6 h => ?_)
      refine X_iload (x := i5) dX8_tracksHeard_23 rfl ?_
      refine X_icmp_lt 37 dX8_tracksHeard_25 (by decide) h (fun h => ?_) (fun h => ?_)
      · exact x_X8_tracksHeard_37 ih h
      · refine X_iload (x := i6) dX8_tracksHeard_28 rfl ?_
        refine X_iconst 1 dX8_tracksHeard_30 rfl ?_
        refine X_iload (x := i7) dX8_tracksHeard_31 rfl ?_
        refine X_ishl dX8_tracksHeard_33 ?_
        refine X_ior dX8_tracksHeard_34 ?_
        refine X_istoreL (fun v7 => [.ref 0, .int i1, .int i2, .int i3, .int i4, .int i5, .int v7, .int i7]) dX8_tracksHeard_35 (Nat.le_of_ble_eq_true rfl) (Nat.le_of_ble_eq_true rfl) (xcat1_of rfl) h (fun _ => rfl) (fun v7 h => ?_)
        exact x_X8_tracksHeard_37 ih h
def f_X8_tracksHeard (M : xM) (a1 a2 a3 a4 a5 : Int32) : Option Int32 :=
  xl (0 : Int32) fun v8 =>
  xl (0 : Int32) fun v9 =>
  f_X8_tracksHeard_6 M xFU a1 a2 a3 a4 a5 v8 v9
set_option maxHeartbeats 1000000 in
theorem x_X8_tracksHeard {ξ : xX} {M : xM} {a1 a2 a3 a4 a5 : Int32} {z : Int32} (h : f_X8_tracksHeard M a1 a2 a3 a4 a5 = some z) : X ξ mX8_tracksHeard 0 [.ref 0, .int a1, .int a2, .int a3, .int a4, .int a5] [] SH M 0 0 (xr (some (.int z)) SH M) := by
  rw [f_X8_tracksHeard] at h
  refine X_iconst 0 dX8_tracksHeard_0 rfl ?_
  refine X_istoreL (fun v8 => [.ref 0, .int a1, .int a2, .int a3, .int a4, .int a5, .int v8]) dX8_tracksHeard_1 (Nat.le_of_ble_eq_true rfl) (Nat.le_of_ble_eq_true rfl) (xcat1_of rfl) h (fun _ => rfl) (fun v8 h => ?_)
  refine X_iconst 0 dX8_tracksHeard_3 rfl ?_
  refine X_istoreL (fun v9 => [.ref 0, .int a1, .int a2, .int a3, .int a4, .int a5, .int v8, .int v9]) dX8_tracksHeard_4 (Nat.le_of_ble_eq_true rfl) (Nat.le_of_ble_eq_true rfl) (xcat1_of rfl) h (fun _ => rfl) (fun v9 h => ?_)
  exact x_X8_tracksHeard_6 _ _ _ _ _ _ _ _ _ h
def f_X8_refusalOfPass (M : xM) (a1 a2 a3 a4 : Int32) : Option Int32 :=
  xb (f_X8_isSameKind M a1 a2) fun v1 =>
  if v1 = 0 then (
    some 1)
  else (
    xb (f_X6_get 2 3 56 M a1 4) fun v2 =>
    xb (f_X8_playsOfPass M a1 a3) fun v3 =>
    if v3 ≤ v2 then (
      xb (f_X6_get 4 5 24 M a2 4) fun v4 =>
      xb (f_X8_secondsOfPass M a1 a3) fun v5 =>
      if v5 ≤ v4 then (
        xb (f_X8_tracksHeard M a1 a2 a3 a4 1) fun v6 =>
        if v6 = 0 then (
          some 4)
        else (
          xb (f_X6_isFull 10 11 264 M) fun v7 =>
          if v7 = 0 then (
            some 0)
          else (
            some 5)))
      else (
        some 3))
    else (
      some 2))
set_option maxHeartbeats 1000000 in
theorem x_X8_refusalOfPass {ξ : xX} {M : xM} {a1 a2 a3 a4 : Int32} {z : Int32} (h : f_X8_refusalOfPass M a1 a2 a3 a4 = some z) : X ξ mX8_refusalOfPass 0 [.ref 0, .int a1, .int a2, .int a3, .int a4] [] SH M 0 0 (xr (some (.int z)) SH M) := by
  rw [f_X8_refusalOfPass] at h
  refine X_aload_n (x := 0) dX8_refusalOfPass_0 rfl ?_
  refine X_iload_n (x := a1) dX8_refusalOfPass_1 rfl ?_
  refine X_iload_n (x := a2) dX8_refusalOfPass_2 rfl ?_
  refine X_vP (μ' := mX8_isSameKind) [.int a1, .int a2] [] kL_RX8_251 kM_X8_isSameKind rv_0 rfl rfl rfl dX8_refusalOfPass_3 h (fun _ hv => x_X8_isSameKind hv) (fun v1 h => ?_)
  refine X_if_ne 11 dX8_refusalOfPass_6 (by decide) h (fun h => ?_) (fun h => ?_)
  · refine X_aload_n (x := 0) dX8_refusalOfPass_11 rfl ?_
    refine X_get (v := .ref 1) kF_RX8_10 sh_0 rfl rfl dX8_refusalOfPass_12 ?_
    refine X_get (v := .ref 2) kF_RX8_65 sh_1 rfl rfl dX8_refusalOfPass_15 ?_
    refine X_iload_n (x := a1) dX8_refusalOfPass_18 rfl ?_
    refine X_iconst 4 dX8_refusalOfPass_19 rfl ?_
    refine X_vP (μ' := mX6_get) [.int a1, .int 4] [] kL_RX8_98 kM_X6_get rv_2 rfl rfl rfl dX8_refusalOfPass_20 h (fun _ hv => x_X6_get xT_2 hv) (fun v2 h => ?_)
    refine X_aload_n (x := 0) dX8_refusalOfPass_23 rfl ?_
    refine X_iload_n (x := a1) dX8_refusalOfPass_24 rfl ?_
    refine X_iload_n (x := a3) dX8_refusalOfPass_25 rfl ?_
    refine X_vP (μ' := mX8_playsOfPass) [.int a1, .int a3] [.int v2] kL_RX8_286 kM_X8_playsOfPass rv_0 rfl rfl rfl dX8_refusalOfPass_26 h (fun _ hv => x_X8_playsOfPass hv) (fun v3 h => ?_)
    refine X_icmp_ge 34 dX8_refusalOfPass_29 (by decide) h (fun h => ?_) (fun h => ?_)
    · refine X_aload_n (x := 0) dX8_refusalOfPass_34 rfl ?_
      refine X_get (v := .ref 1) kF_RX8_10 sh_0 rfl rfl dX8_refusalOfPass_35 ?_
      refine X_get (v := .ref 4) kF_RX8_91 sh_1 rfl rfl dX8_refusalOfPass_38 ?_
      refine X_iload_n (x := a2) dX8_refusalOfPass_41 rfl ?_
      refine X_iconst 4 dX8_refusalOfPass_42 rfl ?_
      refine X_vP (μ' := mX6_get) [.int a2, .int 4] [] kL_RX8_98 kM_X6_get rv_4 rfl rfl rfl dX8_refusalOfPass_43 h (fun _ hv => x_X6_get xT_4 hv) (fun v4 h => ?_)
      refine X_aload_n (x := 0) dX8_refusalOfPass_46 rfl ?_
      refine X_iload_n (x := a1) dX8_refusalOfPass_47 rfl ?_
      refine X_iload_n (x := a3) dX8_refusalOfPass_48 rfl ?_
      refine X_vP (μ' := mX8_secondsOfPass) [.int a1, .int a3] [.int v4] kL_RX8_257 kM_X8_secondsOfPass rv_0 rfl rfl rfl dX8_refusalOfPass_49 h (fun _ hv => x_X8_secondsOfPass hv) (fun v5 h => ?_)
      refine X_icmp_ge 57 dX8_refusalOfPass_52 (by decide) h (fun h => ?_) (fun h => ?_)
      · refine X_aload_n (x := 0) dX8_refusalOfPass_57 rfl ?_
        refine X_iload_n (x := a1) dX8_refusalOfPass_58 rfl ?_
        refine X_iload_n (x := a2) dX8_refusalOfPass_59 rfl ?_
        refine X_iload_n (x := a3) dX8_refusalOfPass_60 rfl ?_
        refine X_iload (x := a4) dX8_refusalOfPass_61 rfl ?_
        refine X_iconst 1 dX8_refusalOfPass_63 rfl ?_
        refine X_vP (μ' := mX8_tracksHeard) [.int a1, .int a2, .int a3, .int a4, .int 1] [] kL_RX8_289 kM_X8_tracksHeard rv_0 rfl rfl rfl dX8_refusalOfPass_64 h (fun _ hv => x_X8_tracksHeard hv) (fun v6 h => ?_)
        refine X_if_ne 72 dX8_refusalOfPass_67 (by decide) h (fun h => ?_) (fun h => ?_)
        · refine X_aload_n (x := 0) dX8_refusalOfPass_72 rfl ?_
          refine X_get (v := .ref 1) kF_RX8_10 sh_0 rfl rfl dX8_refusalOfPass_73 ?_
          refine X_get (v := .ref 10) kF_RX8_215 sh_1 rfl rfl dX8_refusalOfPass_76 ?_
          refine X_vP (μ' := mX6_isFull) [] [] kL_RX8_69 kM_X6_isFull rv_10 rfl rfl rfl dX8_refusalOfPass_79 h (fun _ hv => x_X6_isFull xT_10 hv) (fun v7 h => ?_)
          refine X_if_eq 89 dX8_refusalOfPass_82 (by decide) h (fun h => ?_) (fun h => ?_)
          · refine X_iconst 0 dX8_refusalOfPass_89 rfl ?_
            exact X_retP dX8_refusalOfPass_90 rfl (Nat.le_refl _) (Nat.le_refl _) h
          · refine X_iconst 5 dX8_refusalOfPass_85 rfl ?_
            refine X_goto 90 dX8_refusalOfPass_86 (by decide) ?_
            exact X_retP dX8_refusalOfPass_90 rfl (Nat.le_refl _) (Nat.le_refl _) h
        · refine X_iconst 4 dX8_refusalOfPass_70 rfl ?_
          exact X_retP dX8_refusalOfPass_71 rfl (Nat.le_refl _) (Nat.le_refl _) h
      · refine X_iconst 3 dX8_refusalOfPass_55 rfl ?_
        exact X_retP dX8_refusalOfPass_56 rfl (Nat.le_refl _) (Nat.le_refl _) h
    · refine X_iconst 2 dX8_refusalOfPass_32 rfl ?_
      exact X_retP dX8_refusalOfPass_33 rfl (Nat.le_refl _) (Nat.le_refl _) h
  · refine X_iconst 1 dX8_refusalOfPass_9 rfl ?_
    exact X_retP dX8_refusalOfPass_10 rfl (Nat.le_refl _) (Nat.le_refl _) h
def f_X8_makePass_159 : Nat → xM → Int32 → Int32 → Int32 → Int32 → Int32 → Int32 → Int32 → Int32 → Option (Int32 × xM)
  | 0, _, _, _, _, _, _, _, _, _ => none
  | fu + 1, M, i1, i2, i3, i4, i5, i6, i7, i8 =>
    if 4 ≤ i8 then (
      xb (f_X6_add 2 3 56 M i1 5 1) fun M6 =>
      xb (f_X8_playsOfPass M6 i1 i3) fun v7 =>
      xb (f_X6_add 2 3 56 M6 i1 4 (-v7)) fun M8 =>
      xb (f_X6_add 4 5 24 M8 i2 5 1) fun M9 =>
      xb (f_X8_secondsOfPass M9 i1 i3) fun v10 =>
      xb (f_X6_add 4 5 24 M9 i2 4 (-v10)) fun M11 =>
      xl (xw M11 1 9 0) fun M12 =>
      some (i5, M12))
    else (
      xb (f_X8_captureNow M i1 i2 i3 i4 i8) fun v13 =>
      xb (f_X6_set 10 11 264 M i5 (7 + i8) v13) fun M14 =>
      xl (i8 + 1) fun v15 =>
      (f_X8_makePass_159 fu) M14 i1 i2 i3 i4 i5 i6 i7 v15)
set_option maxHeartbeats 1000000 in
theorem x_X8_makePass_159 {ξ : xX} : ∀ (fu : Nat) (M : xM) (i1 i2 i3 i4 i5 i6 i7 i8 : Int32) (z : (Int32 × xM)), f_X8_makePass_159 fu M i1 i2 i3 i4 i5 i6 i7 i8 = some z → X ξ mX8_makePass 159 [.ref 0, .int i1, .int i2, .int i3, .int i4, .int i5, .int i6, .int i7, .int i8] [] SH M 0 0 (xr (some (.int z.1)) SH z.2) := by
  intro fu
  induction fu with
  | zero => intro M i1 i2 i3 i4 i5 i6 i7 i8 z h; rw [f_X8_makePass_159] at h; cases h
  | succ fu ih =>
    intro M i1 i2 i3 i4 i5 i6 i7 i8 z h
    rw [f_X8_makePass_159] at h
    refine X_iload (x := i8) dX8_makePass_159 rfl ?_
    refine X_iconst 4 dX8_makePass_161 rfl ?_
    refine X_icmp_ge 199 dX8_makePass_162 (by decide) h (fun h => ?_) (fun h => ?_)
    · refine X_aload_n (x := 0) dX8_makePass_199 rfl ?_
      refine X_get (v := .ref 1) kF_RX8_10 sh_0 rfl rfl dX8_makePass_200 ?_
      refine X_get (v := .ref 2) kF_RX8_65 sh_1 rfl rfl dX8_makePass_203 ?_
      refine X_iload_n (x := i1) dX8_makePass_206 rfl ?_
      refine X_iconst 5 dX8_makePass_207 rfl ?_
      refine X_iconst 1 dX8_makePass_208 rfl ?_
      refine X_vV (μ' := mX6_add) [.int i1, .int 5, .int 1] [] kL_RX8_116 kM_X6_add rv_2 rfl rfl rfl dX8_makePass_209 h (fun _ hv => x_X6_add xT_2 hv) (fun M6 h => ?_)
      refine X_aload_n (x := 0) dX8_makePass_212 rfl ?_
      refine X_get (v := .ref 1) kF_RX8_10 sh_0 rfl rfl dX8_makePass_213 ?_
      refine X_get (v := .ref 2) kF_RX8_65 sh_1 rfl rfl dX8_makePass_216 ?_
      refine X_iload_n (x := i1) dX8_makePass_219 rfl ?_
      refine X_iconst 4 dX8_makePass_220 rfl ?_
      refine X_aload_n (x := 0) dX8_makePass_221 rfl ?_
      refine X_iload_n (x := i1) dX8_makePass_222 rfl ?_
      refine X_iload_n (x := i3) dX8_makePass_223 rfl ?_
      refine X_vP (μ' := mX8_playsOfPass) [.int i1, .int i3] [.int 4, .int i1, .ref 2] kL_RX8_286 kM_X8_playsOfPass rv_0 rfl rfl rfl dX8_makePass_224 h (fun _ hv => x_X8_playsOfPass hv) (fun v7 h => ?_)
      refine X_ineg dX8_makePass_227 ?_
      refine X_vV (μ' := mX6_add) [.int i1, .int 4, .int (-v7)] [] kL_RX8_116 kM_X6_add rv_2 rfl rfl rfl dX8_makePass_228 h (fun _ hv => x_X6_add xT_2 hv) (fun M8 h => ?_)
      refine X_aload_n (x := 0) dX8_makePass_231 rfl ?_
      refine X_get (v := .ref 1) kF_RX8_10 sh_0 rfl rfl dX8_makePass_232 ?_
      refine X_get (v := .ref 4) kF_RX8_91 sh_1 rfl rfl dX8_makePass_235 ?_
      refine X_iload_n (x := i2) dX8_makePass_238 rfl ?_
      refine X_iconst 5 dX8_makePass_239 rfl ?_
      refine X_iconst 1 dX8_makePass_240 rfl ?_
      refine X_vV (μ' := mX6_add) [.int i2, .int 5, .int 1] [] kL_RX8_116 kM_X6_add rv_4 rfl rfl rfl dX8_makePass_241 h (fun _ hv => x_X6_add xT_4 hv) (fun M9 h => ?_)
      refine X_aload_n (x := 0) dX8_makePass_244 rfl ?_
      refine X_get (v := .ref 1) kF_RX8_10 sh_0 rfl rfl dX8_makePass_245 ?_
      refine X_get (v := .ref 4) kF_RX8_91 sh_1 rfl rfl dX8_makePass_248 ?_
      refine X_iload_n (x := i2) dX8_makePass_251 rfl ?_
      refine X_iconst 4 dX8_makePass_252 rfl ?_
      refine X_aload_n (x := 0) dX8_makePass_253 rfl ?_
      refine X_iload_n (x := i1) dX8_makePass_254 rfl ?_
      refine X_iload_n (x := i3) dX8_makePass_255 rfl ?_
      refine X_vP (μ' := mX8_secondsOfPass) [.int i1, .int i3] [.int 4, .int i2, .ref 4] kL_RX8_257 kM_X8_secondsOfPass rv_0 rfl rfl rfl dX8_makePass_256 h (fun _ hv => x_X8_secondsOfPass hv) (fun v10 h => ?_)
      refine X_ineg dX8_makePass_259 ?_
      refine X_vV (μ' := mX6_add) [.int i2, .int 4, .int (-v10)] [] kL_RX8_116 kM_X6_add rv_4 rfl rfl rfl dX8_makePass_260 h (fun _ hv => x_X6_add xT_4 hv) (fun M11 h => ?_)
      refine X_aload_n (x := 0) dX8_makePass_263 rfl ?_
      refine X_get (v := .ref 1) kF_RX8_10 sh_0 rfl rfl dX8_makePass_264 ?_
      refine X_iconst 0 dX8_makePass_267 rfl ?_
      refine X_putI kF_RX8_242 sh_1 rfl rfl rfl dX8_makePass_268 h (fun M12 h => ?_)
      refine X_iload (x := i5) dX8_makePass_271 rfl ?_
      exact X_retI dX8_makePass_273 rfl (Nat.le_refl _) (Nat.le_refl _) h
    · refine X_aload_n (x := 0) dX8_makePass_165 rfl ?_
      refine X_get (v := .ref 1) kF_RX8_10 sh_0 rfl rfl dX8_makePass_166 ?_
      refine X_get (v := .ref 10) kF_RX8_215 sh_1 rfl rfl dX8_makePass_169 ?_
      refine X_iload (x := i5) dX8_makePass_172 rfl ?_
      refine X_bipush 7 dX8_makePass_174 rfl ?_
      refine X_iload (x := i8) dX8_makePass_176 rfl ?_
      refine X_iadd dX8_makePass_178 ?_
      refine X_aload_n (x := 0) dX8_makePass_179 rfl ?_
      refine X_iload_n (x := i1) dX8_makePass_180 rfl ?_
      refine X_iload_n (x := i2) dX8_makePass_181 rfl ?_
      refine X_iload_n (x := i3) dX8_makePass_182 rfl ?_
      refine X_iload (x := i4) dX8_makePass_183 rfl ?_
      refine X_iload (x := i8) dX8_makePass_185 rfl ?_
      refine X_vP (μ' := mX8_captureNow) [.int i1, .int i2, .int i3, .int i4, .int i8] [.int (7 + i8), .int i5, .ref 10] kL_RX8_254 kM_X8_captureNow rv_0 rfl rfl rfl dX8_makePass_187 h (fun _ hv => x_X8_captureNow hv) (fun v13 h => ?_)
      refine X_vV (μ' := mX6_set) [.int i5, .int (7 + i8), .int v13] [] kL_RX8_83 kM_X6_set rv_10 rfl rfl rfl dX8_makePass_190 h (fun _ hv => x_X6_set xT_10 hv) (fun M14 h => ?_)
      refine X_iincL (x := i8) 1 (fun v15 => [.ref 0, .int i1, .int i2, .int i3, .int i4, .int i5, .int i6, .int i7, .int v15]) dX8_makePass_193 rfl rfl (Nat.le_of_ble_eq_true rfl) (xcat1_of rfl) h (fun _ => rfl) (fun v15 h => ?_)
      refine X_goto 159 dX8_makePass_196 (by decide) ?_
      exact ih _ _ _ _ _ _ _ _ _ _ h
def f_X8_makePass (M : xM) (a1 a2 a3 a4 : Int32) : Option (Int32 × xM) :=
  xb2 (f_X6_addRow 10 11 264 M) fun v16 M17 =>
  xl v16 fun v18 =>
  xb (f_X8_tracksHeard M17 a1 a2 a3 a4 1) fun v19 =>
  xl v19 fun v20 =>
  xb (f_X6_get 2 3 56 M17 a1 2) fun v21 =>
  xb (f_X3_tracksOfSide v21 a4) fun v22 =>
  xl v22 fun v23 =>
  xb (f_X6_set 10 11 264 M17 v18 0 a1) fun M24 =>
  xb (f_X6_set 10 11 264 M24 v18 1 a2) fun M25 =>
  xb (f_X6_set 10 11 264 M25 v18 2 a3) fun M26 =>
  xb (f_X6_set 10 11 264 M26 v18 3 a4) fun M27 =>
  xb (f_X6_set 10 11 264 M27 v18 4 (M27 1 8)) fun M28 =>
  xb (f_X6_set 10 11 264 M28 v18 5 v20) fun M29 =>
  xb (f_X6_set 10 11 264 M29 v18 6 (v20 &&& (v23 ^^^ (-1)))) fun M30 =>
  xl (0 : Int32) fun v31 =>
  f_X8_makePass_159 xFU M30 a1 a2 a3 a4 v18 v20 v23 v31
set_option maxHeartbeats 1000000 in
theorem x_X8_makePass {ξ : xX} {M : xM} {a1 a2 a3 a4 : Int32} {z : (Int32 × xM)} (h : f_X8_makePass M a1 a2 a3 a4 = some z) : X ξ mX8_makePass 0 [.ref 0, .int a1, .int a2, .int a3, .int a4] [] SH M 0 0 (xr (some (.int z.1)) SH z.2) := by
  rw [f_X8_makePass] at h
  refine X_aload_n (x := 0) dX8_makePass_0 rfl ?_
  refine X_get (v := .ref 1) kF_RX8_10 sh_0 rfl rfl dX8_makePass_1 ?_
  refine X_get (v := .ref 10) kF_RX8_215 sh_1 rfl rfl dX8_makePass_4 ?_
  refine X_vI (μ' := mX6_addRow) [] [] kL_RX8_79 kM_X6_addRow rv_10 rfl rfl rfl dX8_makePass_7 h (fun _ hv => x_X6_addRow xT_10 hv) (fun v16 M17 h => ?_)
  refine X_istoreL (fun v18 => [.ref 0, .int a1, .int a2, .int a3, .int a4, .int v18]) dX8_makePass_10 (Nat.le_of_ble_eq_true rfl) (Nat.le_of_ble_eq_true rfl) (xcat1_of rfl) h (fun _ => rfl) (fun v18 h => ?_)
  refine X_aload_n (x := 0) dX8_makePass_12 rfl ?_
  refine X_iload_n (x := a1) dX8_makePass_13 rfl ?_
  refine X_iload_n (x := a2) dX8_makePass_14 rfl ?_
  refine X_iload_n (x := a3) dX8_makePass_15 rfl ?_
  refine X_iload (x := a4) dX8_makePass_16 rfl ?_
  refine X_iconst 1 dX8_makePass_18 rfl ?_
  refine X_vP (μ' := mX8_tracksHeard) [.int a1, .int a2, .int a3, .int a4, .int 1] [] kL_RX8_289 kM_X8_tracksHeard rv_0 rfl rfl rfl dX8_makePass_19 h (fun _ hv => x_X8_tracksHeard hv) (fun v19 h => ?_)
  refine X_istoreL (fun v20 => [.ref 0, .int a1, .int a2, .int a3, .int a4, .int v18, .int v20]) dX8_makePass_22 (Nat.le_of_ble_eq_true rfl) (Nat.le_of_ble_eq_true rfl) (xcat1_of rfl) h (fun _ => rfl) (fun v20 h => ?_)
  refine X_aload_n (x := 0) dX8_makePass_24 rfl ?_
  refine X_get (v := .ref 1) kF_RX8_10 sh_0 rfl rfl dX8_makePass_25 ?_
  refine X_get (v := .ref 2) kF_RX8_65 sh_1 rfl rfl dX8_makePass_28 ?_
  refine X_iload_n (x := a1) dX8_makePass_31 rfl ?_
  refine X_iconst 2 dX8_makePass_32 rfl ?_
  refine X_vP (μ' := mX6_get) [.int a1, .int 2] [] kL_RX8_98 kM_X6_get rv_2 rfl rfl rfl dX8_makePass_33 h (fun _ hv => x_X6_get xT_2 hv) (fun v21 h => ?_)
  refine X_iload (x := a4) dX8_makePass_36 rfl ?_
  refine X_sP (μ' := mX3_tracksOfSide) [.int v21, .int a4] [] kL_RX8_292 kM_X3_tracksOfSide rfl rfl rfl dX8_makePass_38 h (fun _ hv => x_X3_tracksOfSide hv) (fun v22 h => ?_)
  refine X_istoreL (fun v23 => [.ref 0, .int a1, .int a2, .int a3, .int a4, .int v18, .int v20, .int v23]) dX8_makePass_41 (Nat.le_of_ble_eq_true rfl) (Nat.le_of_ble_eq_true rfl) (xcat1_of rfl) h (fun _ => rfl) (fun v23 h => ?_)
  refine X_aload_n (x := 0) dX8_makePass_43 rfl ?_
  refine X_get (v := .ref 1) kF_RX8_10 sh_0 rfl rfl dX8_makePass_44 ?_
  refine X_get (v := .ref 10) kF_RX8_215 sh_1 rfl rfl dX8_makePass_47 ?_
  refine X_iload (x := v18) dX8_makePass_50 rfl ?_
  refine X_iconst 0 dX8_makePass_52 rfl ?_
  refine X_iload_n (x := a1) dX8_makePass_53 rfl ?_
  refine X_vV (μ' := mX6_set) [.int v18, .int 0, .int a1] [] kL_RX8_83 kM_X6_set rv_10 rfl rfl rfl dX8_makePass_54 h (fun _ hv => x_X6_set xT_10 hv) (fun M24 h => ?_)
  refine X_aload_n (x := 0) dX8_makePass_57 rfl ?_
  refine X_get (v := .ref 1) kF_RX8_10 sh_0 rfl rfl dX8_makePass_58 ?_
  refine X_get (v := .ref 10) kF_RX8_215 sh_1 rfl rfl dX8_makePass_61 ?_
  refine X_iload (x := v18) dX8_makePass_64 rfl ?_
  refine X_iconst 1 dX8_makePass_66 rfl ?_
  refine X_iload_n (x := a2) dX8_makePass_67 rfl ?_
  refine X_vV (μ' := mX6_set) [.int v18, .int 1, .int a2] [] kL_RX8_83 kM_X6_set rv_10 rfl rfl rfl dX8_makePass_68 h (fun _ hv => x_X6_set xT_10 hv) (fun M25 h => ?_)
  refine X_aload_n (x := 0) dX8_makePass_71 rfl ?_
  refine X_get (v := .ref 1) kF_RX8_10 sh_0 rfl rfl dX8_makePass_72 ?_
  refine X_get (v := .ref 10) kF_RX8_215 sh_1 rfl rfl dX8_makePass_75 ?_
  refine X_iload (x := v18) dX8_makePass_78 rfl ?_
  refine X_iconst 2 dX8_makePass_80 rfl ?_
  refine X_iload_n (x := a3) dX8_makePass_81 rfl ?_
  refine X_vV (μ' := mX6_set) [.int v18, .int 2, .int a3] [] kL_RX8_83 kM_X6_set rv_10 rfl rfl rfl dX8_makePass_82 h (fun _ hv => x_X6_set xT_10 hv) (fun M26 h => ?_)
  refine X_aload_n (x := 0) dX8_makePass_85 rfl ?_
  refine X_get (v := .ref 1) kF_RX8_10 sh_0 rfl rfl dX8_makePass_86 ?_
  refine X_get (v := .ref 10) kF_RX8_215 sh_1 rfl rfl dX8_makePass_89 ?_
  refine X_iload (x := v18) dX8_makePass_92 rfl ?_
  refine X_iconst 3 dX8_makePass_94 rfl ?_
  refine X_iload (x := a4) dX8_makePass_95 rfl ?_
  refine X_vV (μ' := mX6_set) [.int v18, .int 3, .int a4] [] kL_RX8_83 kM_X6_set rv_10 rfl rfl rfl dX8_makePass_97 h (fun _ hv => x_X6_set xT_10 hv) (fun M27 h => ?_)
  refine X_aload_n (x := 0) dX8_makePass_100 rfl ?_
  refine X_get (v := .ref 1) kF_RX8_10 sh_0 rfl rfl dX8_makePass_101 ?_
  refine X_get (v := .ref 10) kF_RX8_215 sh_1 rfl rfl dX8_makePass_104 ?_
  refine X_iload (x := v18) dX8_makePass_107 rfl ?_
  refine X_iconst 4 dX8_makePass_109 rfl ?_
  refine X_aload_n (x := 0) dX8_makePass_110 rfl ?_
  refine X_get (v := .ref 1) kF_RX8_10 sh_0 rfl rfl dX8_makePass_111 ?_
  refine X_get (v := .int (M27 1 8)) kF_RX8_151 sh_1 rfl rfl dX8_makePass_114 ?_
  refine X_vV (μ' := mX6_set) [.int v18, .int 4, .int (M27 1 8)] [] kL_RX8_83 kM_X6_set rv_10 rfl rfl rfl dX8_makePass_117 h (fun _ hv => x_X6_set xT_10 hv) (fun M28 h => ?_)
  refine X_aload_n (x := 0) dX8_makePass_120 rfl ?_
  refine X_get (v := .ref 1) kF_RX8_10 sh_0 rfl rfl dX8_makePass_121 ?_
  refine X_get (v := .ref 10) kF_RX8_215 sh_1 rfl rfl dX8_makePass_124 ?_
  refine X_iload (x := v18) dX8_makePass_127 rfl ?_
  refine X_iconst 5 dX8_makePass_129 rfl ?_
  refine X_iload (x := v20) dX8_makePass_130 rfl ?_
  refine X_vV (μ' := mX6_set) [.int v18, .int 5, .int v20] [] kL_RX8_83 kM_X6_set rv_10 rfl rfl rfl dX8_makePass_132 h (fun _ hv => x_X6_set xT_10 hv) (fun M29 h => ?_)
  refine X_aload_n (x := 0) dX8_makePass_135 rfl ?_
  refine X_get (v := .ref 1) kF_RX8_10 sh_0 rfl rfl dX8_makePass_136 ?_
  refine X_get (v := .ref 10) kF_RX8_215 sh_1 rfl rfl dX8_makePass_139 ?_
  refine X_iload (x := v18) dX8_makePass_142 rfl ?_
  refine X_bipush 6 dX8_makePass_144 rfl ?_
  refine X_iload (x := v20) dX8_makePass_146 rfl ?_
  refine X_iload (x := v23) dX8_makePass_148 rfl ?_
  refine X_iconst (-1) dX8_makePass_150 rfl ?_
  refine X_ixor dX8_makePass_151 ?_
  refine X_iand dX8_makePass_152 ?_
  refine X_vV (μ' := mX6_set) [.int v18, .int 6, .int (v20 &&& (v23 ^^^ (-1)))] [] kL_RX8_83 kM_X6_set rv_10 rfl rfl rfl dX8_makePass_153 h (fun _ hv => x_X6_set xT_10 hv) (fun M30 h => ?_)
  refine X_iconst 0 dX8_makePass_156 rfl ?_
  refine X_istoreL (fun v31 => [.ref 0, .int a1, .int a2, .int a3, .int a4, .int v18, .int v20, .int v23, .int v31]) dX8_makePass_157 (Nat.le_of_ble_eq_true rfl) (Nat.le_of_ble_eq_true rfl) (xcat1_of rfl) h (fun _ => rfl) (fun v31 h => ?_)
  exact x_X8_makePass_159 _ _ _ _ _ _ _ _ _ _ _ h
def f_X8_tryPass_94 (M : xM) (i1 : Int32) (i2 : Int32) (i3 : Int32) (i4 : Int32) (i5 : Int32) (i6 : Int32) : Option (Int32 × xM) :=
  xb2 (f_X8_makePass M i1 i2 i3 i4) fun v2 M3 =>
  some (v2, M3)
set_option maxHeartbeats 1000000 in
theorem x_X8_tryPass_94 {ξ : xX} {M : xM} {i1 : Int32} {i2 : Int32} {i3 : Int32} {i4 : Int32} {i5 : Int32} {i6 : Int32} {z : (Int32 × xM)} (h : f_X8_tryPass_94 M i1 i2 i3 i4 i5 i6 = some z) : X ξ mX8_tryPass 94 [.ref 0, .int i1, .int i2, .int i3, .int i4, .int i5, .int i6] [] SH M 0 0 (xr (some (.int z.1)) SH z.2) := by
  rw [f_X8_tryPass_94] at h
  refine X_aload_n (x := 0) dX8_tryPass_94 rfl ?_
  refine X_iload_n (x := i1) dX8_tryPass_95 rfl ?_
  refine X_iload_n (x := i2) dX8_tryPass_96 rfl ?_
  refine X_iload_n (x := i3) dX8_tryPass_97 rfl ?_
  refine X_iload (x := i4) dX8_tryPass_98 rfl ?_
  refine X_vI (μ' := mX8_makePass) [.int i1, .int i2, .int i3, .int i4] [] kL_RX8_283 kM_X8_makePass rv_0 rfl rfl rfl dX8_tryPass_100 h (fun _ hv => x_X8_makePass hv) (fun v2 M3 h => ?_)
  exact X_retI dX8_tryPass_103 rfl (Nat.le_refl _) (Nat.le_refl _) h
def f_X8_tryPass (M : xM) (a1 a2 a3 a4 a5 : Int32) : Option (Int32 × xM) :=
  xb (f_X6_has 2 3 56 M a1) fun v4 =>
  if v4 = 0 then (
    some ((-1), M))
  else (
    xb (f_X6_has 4 5 24 M a2) fun v5 =>
    if v5 = 0 then (
      some ((-1), M))
    else (
      xb (f_X8_canPlay M a2 a3) fun v6 =>
      if v6 = 0 then (
        some ((-2), M))
      else (
        xb (f_X8_isSide a4) fun v7 =>
        if v7 = 0 then (
          some ((-2), M))
        else (
          xb (f_X8_refusalOfPass M a1 a2 a3 a4) fun v8 =>
          xl v8 fun v9 =>
          if v9 = 0 then (
            if a5 = 0 then (
              f_X8_tryPass_94 M a1 a2 a3 a4 a5 v9)
            else (
              xb (f_X1_keep M) fun M10 =>
              f_X8_tryPass_94 M10 a1 a2 a3 a4 a5 v9))
          else (
            xl (xw M 1 9 v9) fun M11 =>
            some ((-5), M11))))))
set_option maxHeartbeats 1000000 in
theorem x_X8_tryPass {ξ : xX} {M : xM} {a1 a2 a3 a4 a5 : Int32} {z : (Int32 × xM)} (h : f_X8_tryPass M a1 a2 a3 a4 a5 = some z) : X ξ mX8_tryPass 0 [.ref 0, .int a1, .int a2, .int a3, .int a4, .int a5] [] SH M 0 0 (xr (some (.int z.1)) SH z.2) := by
  rw [f_X8_tryPass] at h
  refine X_aload_n (x := 0) dX8_tryPass_0 rfl ?_
  refine X_get (v := .ref 1) kF_RX8_10 sh_0 rfl rfl dX8_tryPass_1 ?_
  refine X_get (v := .ref 2) kF_RX8_65 sh_1 rfl rfl dX8_tryPass_4 ?_
  refine X_iload_n (x := a1) dX8_tryPass_7 rfl ?_
  refine X_vP (μ' := mX6_has) [.int a1] [] kL_RX8_94 kM_X6_has rv_2 rfl rfl rfl dX8_tryPass_8 h (fun _ hv => x_X6_has xT_2 hv) (fun v4 h => ?_)
  refine X_if_eq 28 dX8_tryPass_11 (by decide) h (fun h => ?_) (fun h => ?_)
  · refine X_iconst (-1) dX8_tryPass_28 rfl ?_
    exact X_retI dX8_tryPass_29 rfl (Nat.le_refl _) (Nat.le_refl _) h
  · refine X_aload_n (x := 0) dX8_tryPass_14 rfl ?_
    refine X_get (v := .ref 1) kF_RX8_10 sh_0 rfl rfl dX8_tryPass_15 ?_
    refine X_get (v := .ref 4) kF_RX8_91 sh_1 rfl rfl dX8_tryPass_18 ?_
    refine X_iload_n (x := a2) dX8_tryPass_21 rfl ?_
    refine X_vP (μ' := mX6_has) [.int a2] [] kL_RX8_94 kM_X6_has rv_4 rfl rfl rfl dX8_tryPass_22 h (fun _ hv => x_X6_has xT_4 hv) (fun v5 h => ?_)
    refine X_if_ne 30 dX8_tryPass_25 (by decide) h (fun h => ?_) (fun h => ?_)
    · refine X_aload_n (x := 0) dX8_tryPass_30 rfl ?_
      refine X_iload_n (x := a2) dX8_tryPass_31 rfl ?_
      refine X_iload_n (x := a3) dX8_tryPass_32 rfl ?_
      refine X_vP (μ' := mX8_canPlay) [.int a2, .int a3] [] kL_RX8_245 kM_X8_canPlay rv_0 rfl rfl rfl dX8_tryPass_33 h (fun _ hv => x_X8_canPlay hv) (fun v6 h => ?_)
      refine X_if_eq 47 dX8_tryPass_36 (by decide) h (fun h => ?_) (fun h => ?_)
      · refine X_bipush (-2) dX8_tryPass_47 rfl ?_
        exact X_retI dX8_tryPass_49 rfl (Nat.le_refl _) (Nat.le_refl _) h
      · refine X_iload (x := a4) dX8_tryPass_39 rfl ?_
        refine X_sP (μ' := mX8_isSide) [.int a4] [] kL_RX8_248 kM_X8_isSide rfl rfl rfl dX8_tryPass_41 h (fun _ hv => x_X8_isSide hv) (fun v7 h => ?_)
        refine X_if_ne 50 dX8_tryPass_44 (by decide) h (fun h => ?_) (fun h => ?_)
        · refine X_aload_n (x := 0) dX8_tryPass_50 rfl ?_
          refine X_iload_n (x := a1) dX8_tryPass_51 rfl ?_
          refine X_iload_n (x := a2) dX8_tryPass_52 rfl ?_
          refine X_iload_n (x := a3) dX8_tryPass_53 rfl ?_
          refine X_iload (x := a4) dX8_tryPass_54 rfl ?_
          refine X_vP (μ' := mX8_refusalOfPass) [.int a1, .int a2, .int a3, .int a4] [] kL_RX8_279 kM_X8_refusalOfPass rv_0 rfl rfl rfl dX8_tryPass_56 h (fun _ hv => x_X8_refusalOfPass hv) (fun v8 h => ?_)
          refine X_istoreL (fun v9 => [.ref 0, .int a1, .int a2, .int a3, .int a4, .int a5, .int v9]) dX8_tryPass_59 (Nat.le_of_ble_eq_true rfl) (Nat.le_of_ble_eq_true rfl) (xcat1_of rfl) h (fun _ => rfl) (fun v9 h => ?_)
          refine X_iload (x := v9) dX8_tryPass_61 rfl ?_
          refine X_if_eq 78 dX8_tryPass_63 (by decide) h (fun h => ?_) (fun h => ?_)
          · refine X_iload (x := a5) dX8_tryPass_78 rfl ?_
            refine X_if_eq 94 dX8_tryPass_80 (by decide) h (fun h => ?_) (fun h => ?_)
            · exact x_X8_tryPass_94 h
            · refine X_aload_n (x := 0) dX8_tryPass_83 rfl ?_
              refine X_get (v := .ref 18) kF_RX8_19 sh_0 rfl rfl dX8_tryPass_84 ?_
              refine X_aload_n (x := 0) dX8_tryPass_87 rfl ?_
              refine X_get (v := .ref 1) kF_RX8_10 sh_0 rfl rfl dX8_tryPass_88 ?_
              refine X_vV (μ' := mX1_keep) [.ref 1] [] kL_RX8_75 kM_X1_keep rv_18 rfl rfl rfl dX8_tryPass_91 h (fun _ hv => x_X1_keep hv) (fun M10 h => ?_)
              exact x_X8_tryPass_94 h
          · refine X_aload_n (x := 0) dX8_tryPass_66 rfl ?_
            refine X_get (v := .ref 1) kF_RX8_10 sh_0 rfl rfl dX8_tryPass_67 ?_
            refine X_iload (x := v9) dX8_tryPass_70 rfl ?_
            refine X_putI kF_RX8_242 sh_1 rfl rfl rfl dX8_tryPass_72 h (fun M11 h => ?_)
            refine X_bipush (-5) dX8_tryPass_75 rfl ?_
            exact X_retI dX8_tryPass_77 rfl (Nat.le_refl _) (Nat.le_refl _) h
        · refine X_bipush (-2) dX8_tryPass_47 rfl ?_
          exact X_retI dX8_tryPass_49 rfl (Nat.le_refl _) (Nat.le_refl _) h
    · refine X_iconst (-1) dX8_tryPass_28 rfl ?_
      exact X_retI dX8_tryPass_29 rfl (Nat.le_refl _) (Nat.le_refl _) h
def f_X8_transfer (M : xM) (a1 a2 a3 a4 : Int32) : Option (Int32 × xM) :=
  xb2 (f_X8_tryPass M a1 a2 a3 a4 1) fun v1 M2 =>
  some (v1, M2)
set_option maxHeartbeats 1000000 in
theorem x_X8_transfer {ξ : xX} {M : xM} {a1 a2 a3 a4 : Int32} {z : (Int32 × xM)} (h : f_X8_transfer M a1 a2 a3 a4 = some z) : X ξ mX8_transfer 0 [.ref 0, .int a1, .int a2, .int a3, .int a4] [] SH M 0 0 (xr (some (.int z.1)) SH z.2) := by
  rw [f_X8_transfer] at h
  refine X_aload_n (x := 0) dX8_transfer_0 rfl ?_
  refine X_iload_n (x := a1) dX8_transfer_1 rfl ?_
  refine X_iload_n (x := a2) dX8_transfer_2 rfl ?_
  refine X_iload_n (x := a3) dX8_transfer_3 rfl ?_
  refine X_iload (x := a4) dX8_transfer_4 rfl ?_
  refine X_iconst 1 dX8_transfer_6 rfl ?_
  refine X_vI (μ' := mX8_tryPass) [.int a1, .int a2, .int a3, .int a4, .int 1] [] kL_RX8_131 kM_X8_tryPass rv_0 rfl rfl rfl dX8_transfer_7 h (fun _ hv => x_X8_tryPass hv) (fun v1 M2 h => ?_)
  exact X_retI dX8_transfer_10 rfl (Nat.le_refl _) (Nat.le_refl _) h
def f_X8_isUse (a1 : Int32) : Option Int32 :=
  xb (f_X8_isWithin a1 0 2) fun v1 =>
  xgd (xz v1) (some v1)
set_option maxHeartbeats 1000000 in
theorem x_X8_isUse {ξ : xX} {M : xM} {a1 : Int32} {z : Int32} (h : f_X8_isUse a1 = some z) : X ξ mX8_isUse 0 [.int a1] [] SH M 0 0 (xr (some (.int z)) SH M) := by
  rw [f_X8_isUse] at h
  refine X_iload_n (x := a1) dX8_isUse_0 rfl ?_
  refine X_iconst 0 dX8_isUse_1 rfl ?_
  refine X_iconst 2 dX8_isUse_2 rfl ?_
  refine X_sP (μ' := mX8_isWithin) [.int a1, .int 0, .int 2] [] kL_RX8_61 kM_X8_isWithin rfl rfl rfl dX8_isUse_3 h (fun _ hv => x_X8_isWithin hv) (fun v1 h => ?_)
  exact X_retZ dX8_isUse_6 rfl (Nat.le_refl _) (Nat.le_refl _) h
def f_X8_permit (M : xM) (a1 a2 a3 a4 : Int32) : Option (Int32 × xM) :=
  xb (f_X8_isPerson a1) fun v2 =>
  if v2 = 0 then (
    some ((-2), M))
  else (
    xb (f_X8_isPerson a2) fun v3 =>
    if v3 = 0 then (
      some ((-2), M))
    else (
      xb (f_X8_isUse a3) fun v4 =>
      if v4 = 0 then (
        some ((-2), M))
      else (
        xb (f_X8_isWithin a4 0 9999) fun v5 =>
        if v5 = 0 then (
          some ((-2), M))
        else (
          xb (f_X6_isFull 12 13 120 M) fun v6 =>
          if v6 = 0 then (
            xb (f_X1_keep M) fun M7 =>
            xb2 (f_X6_addRow 12 13 120 M7) fun v8 M9 =>
            xl v8 fun v10 =>
            xb (f_X6_set 12 13 120 M9 v10 0 a1) fun M11 =>
            xb (f_X6_set 12 13 120 M11 v10 1 a2) fun M12 =>
            xb (f_X6_set 12 13 120 M12 v10 2 a3) fun M13 =>
            xb (f_X6_set 12 13 120 M13 v10 3 a4) fun M14 =>
            some (v10, M14))
          else (
            some ((-4), M))))))
set_option maxHeartbeats 1000000 in
theorem x_X8_permit {ξ : xX} {M : xM} {a1 a2 a3 a4 : Int32} {z : (Int32 × xM)} (h : f_X8_permit M a1 a2 a3 a4 = some z) : X ξ mX8_permit 0 [.ref 0, .int a1, .int a2, .int a3, .int a4] [] SH M 0 0 (xr (some (.int z.1)) SH z.2) := by
  rw [f_X8_permit] at h
  refine X_iload_n (x := a1) dX8_permit_0 rfl ?_
  refine X_sP (μ' := mX8_isPerson) [.int a1] [] kL_RX8_122 kM_X8_isPerson rfl rfl rfl dX8_permit_1 h (fun _ hv => x_X8_isPerson hv) (fun v2 h => ?_)
  refine X_if_eq 33 dX8_permit_4 (by decide) h (fun h => ?_) (fun h => ?_)
  · refine X_bipush (-2) dX8_permit_33 rfl ?_
    exact X_retI dX8_permit_35 rfl (Nat.le_refl _) (Nat.le_refl _) h
  · refine X_iload_n (x := a2) dX8_permit_7 rfl ?_
    refine X_sP (μ' := mX8_isPerson) [.int a2] [] kL_RX8_122 kM_X8_isPerson rfl rfl rfl dX8_permit_8 h (fun _ hv => x_X8_isPerson hv) (fun v3 h => ?_)
    refine X_if_eq 33 dX8_permit_11 (by decide) h (fun h => ?_) (fun h => ?_)
    · refine X_bipush (-2) dX8_permit_33 rfl ?_
      exact X_retI dX8_permit_35 rfl (Nat.le_refl _) (Nat.le_refl _) h
    · refine X_iload_n (x := a3) dX8_permit_14 rfl ?_
      refine X_sP (μ' := mX8_isUse) [.int a3] [] kL_RX8_135 kM_X8_isUse rfl rfl rfl dX8_permit_15 h (fun _ hv => x_X8_isUse hv) (fun v4 h => ?_)
      refine X_if_eq 33 dX8_permit_18 (by decide) h (fun h => ?_) (fun h => ?_)
      · refine X_bipush (-2) dX8_permit_33 rfl ?_
        exact X_retI dX8_permit_35 rfl (Nat.le_refl _) (Nat.le_refl _) h
      · refine X_iload (x := a4) dX8_permit_21 rfl ?_
        refine X_iconst 0 dX8_permit_23 rfl ?_
        refine X_sipush 9999 dX8_permit_24 rfl ?_
        refine X_sP (μ' := mX8_isWithin) [.int a4, .int 0, .int 9999] [] kL_RX8_61 kM_X8_isWithin rfl rfl rfl dX8_permit_27 h (fun _ hv => x_X8_isWithin hv) (fun v5 h => ?_)
        refine X_if_ne 36 dX8_permit_30 (by decide) h (fun h => ?_) (fun h => ?_)
        · refine X_aload_n (x := 0) dX8_permit_36 rfl ?_
          refine X_get (v := .ref 1) kF_RX8_10 sh_0 rfl rfl dX8_permit_37 ?_
          refine X_get (v := .ref 12) kF_RX8_138 sh_1 rfl rfl dX8_permit_40 ?_
          refine X_vP (μ' := mX6_isFull) [] [] kL_RX8_69 kM_X6_isFull rv_12 rfl rfl rfl dX8_permit_43 h (fun _ hv => x_X6_isFull xT_12 hv) (fun v6 h => ?_)
          refine X_if_eq 52 dX8_permit_46 (by decide) h (fun h => ?_) (fun h => ?_)
          · refine X_aload_n (x := 0) dX8_permit_52 rfl ?_
            refine X_get (v := .ref 18) kF_RX8_19 sh_0 rfl rfl dX8_permit_53 ?_
            refine X_aload_n (x := 0) dX8_permit_56 rfl ?_
            refine X_get (v := .ref 1) kF_RX8_10 sh_0 rfl rfl dX8_permit_57 ?_
            refine X_vV (μ' := mX1_keep) [.ref 1] [] kL_RX8_75 kM_X1_keep rv_18 rfl rfl rfl dX8_permit_60 h (fun _ hv => x_X1_keep hv) (fun M7 h => ?_)
            refine X_aload_n (x := 0) dX8_permit_63 rfl ?_
            refine X_get (v := .ref 1) kF_RX8_10 sh_0 rfl rfl dX8_permit_64 ?_
            refine X_get (v := .ref 12) kF_RX8_138 sh_1 rfl rfl dX8_permit_67 ?_
            refine X_vI (μ' := mX6_addRow) [] [] kL_RX8_79 kM_X6_addRow rv_12 rfl rfl rfl dX8_permit_70 h (fun _ hv => x_X6_addRow xT_12 hv) (fun v8 M9 h => ?_)
            refine X_istoreL (fun v10 => [.ref 0, .int a1, .int a2, .int a3, .int a4, .int v10]) dX8_permit_73 (Nat.le_of_ble_eq_true rfl) (Nat.le_of_ble_eq_true rfl) (xcat1_of rfl) h (fun _ => rfl) (fun v10 h => ?_)
            refine X_aload_n (x := 0) dX8_permit_75 rfl ?_
            refine X_get (v := .ref 1) kF_RX8_10 sh_0 rfl rfl dX8_permit_76 ?_
            refine X_get (v := .ref 12) kF_RX8_138 sh_1 rfl rfl dX8_permit_79 ?_
            refine X_iload (x := v10) dX8_permit_82 rfl ?_
            refine X_iconst 0 dX8_permit_84 rfl ?_
            refine X_iload_n (x := a1) dX8_permit_85 rfl ?_
            refine X_vV (μ' := mX6_set) [.int v10, .int 0, .int a1] [] kL_RX8_83 kM_X6_set rv_12 rfl rfl rfl dX8_permit_86 h (fun _ hv => x_X6_set xT_12 hv) (fun M11 h => ?_)
            refine X_aload_n (x := 0) dX8_permit_89 rfl ?_
            refine X_get (v := .ref 1) kF_RX8_10 sh_0 rfl rfl dX8_permit_90 ?_
            refine X_get (v := .ref 12) kF_RX8_138 sh_1 rfl rfl dX8_permit_93 ?_
            refine X_iload (x := v10) dX8_permit_96 rfl ?_
            refine X_iconst 1 dX8_permit_98 rfl ?_
            refine X_iload_n (x := a2) dX8_permit_99 rfl ?_
            refine X_vV (μ' := mX6_set) [.int v10, .int 1, .int a2] [] kL_RX8_83 kM_X6_set rv_12 rfl rfl rfl dX8_permit_100 h (fun _ hv => x_X6_set xT_12 hv) (fun M12 h => ?_)
            refine X_aload_n (x := 0) dX8_permit_103 rfl ?_
            refine X_get (v := .ref 1) kF_RX8_10 sh_0 rfl rfl dX8_permit_104 ?_
            refine X_get (v := .ref 12) kF_RX8_138 sh_1 rfl rfl dX8_permit_107 ?_
            refine X_iload (x := v10) dX8_permit_110 rfl ?_
            refine X_iconst 2 dX8_permit_112 rfl ?_
            refine X_iload_n (x := a3) dX8_permit_113 rfl ?_
            refine X_vV (μ' := mX6_set) [.int v10, .int 2, .int a3] [] kL_RX8_83 kM_X6_set rv_12 rfl rfl rfl dX8_permit_114 h (fun _ hv => x_X6_set xT_12 hv) (fun M13 h => ?_)
            refine X_aload_n (x := 0) dX8_permit_117 rfl ?_
            refine X_get (v := .ref 1) kF_RX8_10 sh_0 rfl rfl dX8_permit_118 ?_
            refine X_get (v := .ref 12) kF_RX8_138 sh_1 rfl rfl dX8_permit_121 ?_
            refine X_iload (x := v10) dX8_permit_124 rfl ?_
            refine X_iconst 3 dX8_permit_126 rfl ?_
            refine X_iload (x := a4) dX8_permit_127 rfl ?_
            refine X_vV (μ' := mX6_set) [.int v10, .int 3, .int a4] [] kL_RX8_83 kM_X6_set rv_12 rfl rfl rfl dX8_permit_129 h (fun _ hv => x_X6_set xT_12 hv) (fun M14 h => ?_)
            refine X_iload (x := v10) dX8_permit_132 rfl ?_
            exact X_retI dX8_permit_134 rfl (Nat.le_refl _) (Nat.le_refl _) h
          · refine X_bipush (-4) dX8_permit_49 rfl ?_
            exact X_retI dX8_permit_51 rfl (Nat.le_refl _) (Nat.le_refl _) h
        · refine X_bipush (-2) dX8_permit_33 rfl ?_
          exact X_retI dX8_permit_35 rfl (Nat.le_refl _) (Nat.le_refl _) h
def f_X8_errorOfExcerpt_50 (M : xM) (i1 : Int32) (i2 : Int32) (i3 : Int32) (i4 : Int32) (i5 : Int32) (s0 : Int32) : Option Int32 :=
  xl s0 fun v2 =>
  if v2 = 0 then (
    some (-2))
  else (
    some 0)
set_option maxHeartbeats 1000000 in
theorem x_X8_errorOfExcerpt_50 {ξ : xX} {M : xM} {i1 : Int32} {i2 : Int32} {i3 : Int32} {i4 : Int32} {i5 : Int32} {s0 : Int32} {z : Int32} (h : f_X8_errorOfExcerpt_50 M i1 i2 i3 i4 i5 s0 = some z) : X ξ mX8_errorOfExcerpt 50 [.ref 0, .int i1, .int i2, .int i3, .int i4, .int i5] [.int s0] SH M 0 0 (xr (some (.int z)) SH M) := by
  rw [f_X8_errorOfExcerpt_50] at h
  refine X_istoreL (fun v2 => [.ref 0, .int i1, .int i2, .int i3, .int i4, .int i5, .int v2]) dX8_errorOfExcerpt_50 (Nat.le_of_ble_eq_true rfl) (Nat.le_of_ble_eq_true rfl) (xcat1_of rfl) h (fun _ => rfl) (fun v2 h => ?_)
  refine X_iload (x := v2) dX8_errorOfExcerpt_52 rfl ?_
  refine X_if_eq 61 dX8_errorOfExcerpt_54 (by decide) h (fun h => ?_) (fun h => ?_)
  · refine X_bipush (-2) dX8_errorOfExcerpt_61 rfl ?_
    exact X_retP dX8_errorOfExcerpt_63 rfl (Nat.le_refl _) (Nat.le_refl _) h
  · refine X_iconst 0 dX8_errorOfExcerpt_57 rfl ?_
    refine X_goto 63 dX8_errorOfExcerpt_58 (by decide) ?_
    exact X_retP dX8_errorOfExcerpt_63 rfl (Nat.le_refl _) (Nat.le_refl _) h
def f_X8_errorOfExcerpt_49 (M : xM) (i1 : Int32) (i2 : Int32) (i3 : Int32) (i4 : Int32) (i5 : Int32) : Option Int32 :=
  f_X8_errorOfExcerpt_50 M i1 i2 i3 i4 i5 0
set_option maxHeartbeats 1000000 in
theorem x_X8_errorOfExcerpt_49 {ξ : xX} {M : xM} {i1 : Int32} {i2 : Int32} {i3 : Int32} {i4 : Int32} {i5 : Int32} {z : Int32} (h : f_X8_errorOfExcerpt_49 M i1 i2 i3 i4 i5 = some z) : X ξ mX8_errorOfExcerpt 49 [.ref 0, .int i1, .int i2, .int i3, .int i4, .int i5] [] SH M 0 0 (xr (some (.int z)) SH M) := by
  rw [f_X8_errorOfExcerpt_49] at h
  refine X_iconst 0 dX8_errorOfExcerpt_49 rfl ?_
  exact x_X8_errorOfExcerpt_50 h
def f_X8_errorOfExcerpt (M : xM) (a1 a2 a3 a4 a5 : Int32) : Option Int32 :=
  xb (f_X6_has 6 7 96 M a2) fun v3 =>
  if v3 = 0 then (
    some (-1))
  else (
    xb (f_X8_isPerson a1) fun v4 =>
    if v4 = 0 then (
      f_X8_errorOfExcerpt_49 M a1 a2 a3 a4 a5)
    else (
      xb (f_X8_lengthOfRecording M a2) fun v5 =>
      xb (f_X8_isStretch a3 a4 v5) fun v6 =>
      if v6 = 0 then (
        f_X8_errorOfExcerpt_49 M a1 a2 a3 a4 a5)
      else (
        xb (f_X8_isUse a5) fun v7 =>
        if v7 = 0 then (
          f_X8_errorOfExcerpt_49 M a1 a2 a3 a4 a5)
        else (
          f_X8_errorOfExcerpt_50 M a1 a2 a3 a4 a5 1))))
set_option maxHeartbeats 1000000 in
theorem x_X8_errorOfExcerpt {ξ : xX} {M : xM} {a1 a2 a3 a4 a5 : Int32} {z : Int32} (h : f_X8_errorOfExcerpt M a1 a2 a3 a4 a5 = some z) : X ξ mX8_errorOfExcerpt 0 [.ref 0, .int a1, .int a2, .int a3, .int a4, .int a5] [] SH M 0 0 (xr (some (.int z)) SH M) := by
  rw [f_X8_errorOfExcerpt] at h
  refine X_aload_n (x := 0) dX8_errorOfExcerpt_0 rfl ?_
  refine X_get (v := .ref 1) kF_RX8_10 sh_0 rfl rfl dX8_errorOfExcerpt_1 ?_
  refine X_get (v := .ref 6) kF_RX8_109 sh_1 rfl rfl dX8_errorOfExcerpt_4 ?_
  refine X_iload_n (x := a2) dX8_errorOfExcerpt_7 rfl ?_
  refine X_vP (μ' := mX6_has) [.int a2] [] kL_RX8_94 kM_X6_has rv_6 rfl rfl rfl dX8_errorOfExcerpt_8 h (fun _ hv => x_X6_has xT_6 hv) (fun v3 h => ?_)
  refine X_if_ne 16 dX8_errorOfExcerpt_11 (by decide) h (fun h => ?_) (fun h => ?_)
  · refine X_iload_n (x := a1) dX8_errorOfExcerpt_16 rfl ?_
    refine X_sP (μ' := mX8_isPerson) [.int a1] [] kL_RX8_122 kM_X8_isPerson rfl rfl rfl dX8_errorOfExcerpt_17 h (fun _ hv => x_X8_isPerson hv) (fun v4 h => ?_)
    refine X_if_eq 49 dX8_errorOfExcerpt_20 (by decide) h (fun h => ?_) (fun h => ?_)
    · exact x_X8_errorOfExcerpt_49 h
    · refine X_iload_n (x := a3) dX8_errorOfExcerpt_23 rfl ?_
      refine X_iload (x := a4) dX8_errorOfExcerpt_24 rfl ?_
      refine X_aload_n (x := 0) dX8_errorOfExcerpt_26 rfl ?_
      refine X_iload_n (x := a2) dX8_errorOfExcerpt_27 rfl ?_
      refine X_vP (μ' := mX8_lengthOfRecording) [.int a2] [.int a4, .int a3] kL_RX8_119 kM_X8_lengthOfRecording rv_0 rfl rfl rfl dX8_errorOfExcerpt_28 h (fun _ hv => x_X8_lengthOfRecording hv) (fun v5 h => ?_)
      refine X_sP (μ' := mX8_isStretch) [.int a3, .int a4, .int v5] [] kL_RX8_106 kM_X8_isStretch rfl rfl rfl dX8_errorOfExcerpt_31 h (fun _ hv => x_X8_isStretch hv) (fun v6 h => ?_)
      refine X_if_eq 49 dX8_errorOfExcerpt_34 (by decide) h (fun h => ?_) (fun h => ?_)
      · exact x_X8_errorOfExcerpt_49 h
      · refine X_iload (x := a5) dX8_errorOfExcerpt_37 rfl ?_
        refine X_sP (μ' := mX8_isUse) [.int a5] [] kL_RX8_135 kM_X8_isUse rfl rfl rfl dX8_errorOfExcerpt_39 h (fun _ hv => x_X8_isUse hv) (fun v7 h => ?_)
        refine X_if_eq 49 dX8_errorOfExcerpt_42 (by decide) h (fun h => ?_) (fun h => ?_)
        · exact x_X8_errorOfExcerpt_49 h
        · refine X_iconst 1 dX8_errorOfExcerpt_45 rfl ?_
          refine X_goto 50 dX8_errorOfExcerpt_46 (by decide) ?_
          exact x_X8_errorOfExcerpt_50 h
  · refine X_iconst (-1) dX8_errorOfExcerpt_14 rfl ?_
    exact X_retP dX8_errorOfExcerpt_15 rfl (Nat.le_refl _) (Nat.le_refl _) h
