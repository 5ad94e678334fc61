def f_X8_planned (M : xM) (a1 a2 : Int32) : Option (Int32 × xM) :=
  xb (f_X6_has 6 7 96 M a1) fun v1 =>
  if v1 = 0 then (
    some ((-1), M))
  else (
    xb (f_X8_isWithin a2 0 4) fun v2 =>
    if v2 = 0 then (
      some ((-2), M))
    else (
      if a2 < 5 then (
        xb2 (f_X8_makePlan M a1) fun v3 M4 =>
        if v3 = 0 then (
          some ((-6), M4))
        else (
          xgd (xin a2 5) <|
          some ((M4 148 a2.toNatClampNeg), M4)))
      else (
        some ((-2), M))))
set_option maxHeartbeats 1000000 in
theorem x_X8_planned {ξ : xX} {M : xM} {a1 a2 : Int32} {z : (Int32 × xM)} (h : f_X8_planned M a1 a2 = some z) : X ξ mX8_planned 0 [.ref 0, .int a1, .int a2] [] SH M 0 0 (xr (some (.int z.1)) SH z.2) := by
  rw [f_X8_planned] at h
  refine X_aload_n (x := 0) dX8_planned_0 rfl ?_
  refine X_get (v := .ref 1) kF_RX8_10 sh_0 rfl rfl dX8_planned_1 ?_
  refine X_get (v := .ref 6) kF_RX8_109 sh_1 rfl rfl dX8_planned_4 ?_
  refine X_iload_n (x := a1) dX8_planned_7 rfl ?_
  refine X_vP (μ' := mX6_has) [.int a1] [] kL_RX8_94 kM_X6_has rv_6 rfl rfl rfl dX8_planned_8 h (fun _ hv => x_X6_has xT_6 hv) (fun v1 h => ?_)
  refine X_if_ne 16 dX8_planned_11 (by decide) h (fun h => ?_) (fun h => ?_)
  · refine X_iload_n (x := a2) dX8_planned_16 rfl ?_
    refine X_iconst 0 dX8_planned_17 rfl ?_
    refine X_iconst 4 dX8_planned_18 rfl ?_
    refine X_sP (μ' := mX8_isWithin) [.int a2, .int 0, .int 4] [] kL_RX8_61 kM_X8_isWithin rfl rfl rfl dX8_planned_19 h (fun _ hv => x_X8_isWithin hv) (fun v2 h => ?_)
    refine X_if_eq 34 dX8_planned_22 (by decide) h (fun h => ?_) (fun h => ?_)
    · refine X_bipush (-2) dX8_planned_34 rfl ?_
      exact X_retI dX8_planned_36 rfl (Nat.le_refl _) (Nat.le_refl _) h
    · refine X_iload_n (x := a2) dX8_planned_25 rfl ?_
      refine X_aload_n (x := 0) dX8_planned_26 rfl ?_
      refine X_get (v := .ref 148) kF_RX8_47 sh_0 rfl rfl dX8_planned_27 ?_
      refine X_alen 5 sh_148 rfl dX8_planned_30 ?_
      refine X_icmp_lt 37 dX8_planned_31 (by decide) h (fun h => ?_) (fun h => ?_)
      · refine X_aload_n (x := 0) dX8_planned_37 rfl ?_
        refine X_iload_n (x := a1) dX8_planned_38 rfl ?_
        refine X_vI (μ' := mX8_makePlan) [.int a1] [] kL_RX8_260 kM_X8_makePlan rv_0 rfl rfl rfl dX8_planned_39 h (fun _ hv => x_X8_makePlan hv) (fun v3 M4 h => ?_)
        refine X_if_eq 54 dX8_planned_42 (by decide) h (fun h => ?_) (fun h => ?_)
        · refine X_bipush (-6) dX8_planned_54 rfl ?_
          exact X_retI dX8_planned_56 rfl (Nat.le_refl _) (Nat.le_refl _) h
        · refine X_aload_n (x := 0) dX8_planned_45 rfl ?_
          refine X_get (v := .ref 148) kF_RX8_47 sh_0 rfl rfl dX8_planned_46 ?_
          refine X_iload_n (x := a2) dX8_planned_49 rfl ?_
          refine X_iald sh_148 dX8_planned_50 h (fun h => ?_)
          refine X_goto 56 dX8_planned_51 (by decide) ?_
          exact X_retI dX8_planned_56 rfl (Nat.le_refl _) (Nat.le_refl _) h
      · refine X_bipush (-2) dX8_planned_34 rfl ?_
        exact X_retI dX8_planned_36 rfl (Nat.le_refl _) (Nat.le_refl _) h
  · refine X_iconst (-1) dX8_planned_14 rfl ?_
    exact X_retI dX8_planned_15 rfl (Nat.le_refl _) (Nat.le_refl _) h
def f_X8_offerPasses_72 (k3 : xM → Int32 → Int32 → Int32 → Int32 → Option xM) (M : xM) (i1 : Int32) (i2 : Int32) (i3 : Int32) (i4 : Int32) (i5 : Int32) : Option xM :=
  xl (i4 + 1) fun v4 =>
  k3 M i1 i2 i3 v4
set_option maxHeartbeats 1000000 in
theorem x_X8_offerPasses_72 {ξ : xX} {M : xM} {k3 : xM → Int32 → Int32 → Int32 → Int32 → Option xM} {i1 : Int32} {i2 : Int32} {i3 : Int32} {i4 : Int32} {i5 : Int32} (hk3 : ∀ (M : xM) (j1 j2 j3 j4 : Int32) (z : xM), k3 M j1 j2 j3 j4 = some z → X ξ mX8_offerPasses 3 [.ref 0, .int j1, .int j2, .int j3, .int j4] [] SH M 0 0 (xr none SH z)) {z : xM} (h : f_X8_offerPasses_72 k3 M i1 i2 i3 i4 i5 = some z) : X ξ mX8_offerPasses 72 [.ref 0, .int i1, .int i2, .int i3, .int i4, .int i5] [] SH M 0 0 (xr none SH z) := by
  rw [f_X8_offerPasses_72] at h
  refine X_iincL (x := i4) 1 (fun v4 => [.ref 0, .int i1, .int i2, .int i3, .int v4, .int i5]) dX8_offerPasses_72 rfl rfl (Nat.le_of_ble_eq_true rfl) (xcat1_of rfl) h (fun _ => rfl) (fun v4 h => ?_)
  refine X_goto 3 dX8_offerPasses_75 (by decide) ?_
  refine X_cut 5 ?_
  exact hk3 _ _ _ _ _ _ h
def f_X8_offerPasses_3 : Nat → xM → Int32 → Int32 → Int32 → Int32 → Option xM
  | 0, _, _, _, _, _ => none
  | fu + 1, M, i1, i2, i3, i4 =>
    if 3 ≤ i4 then (
      some M)
    else (
      xb (f_X6_get 4 5 24 M i2 0) fun v5 =>
      xb (f_X2_speedOf v5 i4) fun v6 =>
      xl v6 fun v7 =>
      xb (f_X8_canPlay M i2 v7) fun v8 =>
      if v8 = 0 then (
        f_X8_offerPasses_72 (f_X8_offerPasses_3 fu) M i1 i2 i3 i4 v7)
      else (
        xb (f_X8_tracksHeard M i1 i2 v7 0 i3) fun v9 =>
        xb (f_X0_addOffer M v9) fun M10 =>
        xb (f_X8_tracksHeard M10 i1 i2 v7 1 i3) fun v11 =>
        xb (f_X0_addOffer M10 v11) fun M12 =>
        f_X8_offerPasses_72 (f_X8_offerPasses_3 fu) M12 i1 i2 i3 i4 v7))
set_option maxHeartbeats 1000000 in
theorem x_X8_offerPasses_3 {ξ : xX} : ∀ (fu : Nat) (M : xM) (i1 i2 i3 i4 : Int32) (z : xM), f_X8_offerPasses_3 fu M i1 i2 i3 i4 = some z → X ξ mX8_offerPasses 3 [.ref 0, .int i1, .int i2, .int i3, .int i4] [] SH M 0 0 (xr none SH z) := by
  intro fu
  induction fu with
  | zero => intro M i1 i2 i3 i4 z h; rw [f_X8_offerPasses_3] at h; cases h
  | succ fu ih =>
    intro M i1 i2 i3 i4 z h
    rw [f_X8_offerPasses_3] at h
    refine X_iload (x := i4) dX8_offerPasses_3 rfl ?_
    refine X_iconst 3 dX8_offerPasses_5 rfl ?_
    refine X_icmp_ge 78 dX8_offerPasses_6 (by decide) h (fun h => ?_) (fun h => ?_)
    · exact X_retV dX8_offerPasses_78 rfl (Nat.le_refl _) (Nat.le_refl _) h
    · refine X_aload_n (x := 0) dX8_offerPasses_9 rfl ?_
      refine X_get (v := .ref 1) kF_RX8_10 sh_0 rfl rfl dX8_offerPasses_10 ?_
      refine X_get (v := .ref 4) kF_RX8_91 sh_1 rfl rfl dX8_offerPasses_13 ?_
      refine X_iload_n (x := i2) dX8_offerPasses_16 rfl ?_
      refine X_iconst 0 dX8_offerPasses_17 rfl ?_
      refine X_vP (μ' := mX6_get) [.int i2, .int 0] [] kL_RX8_98 kM_X6_get rv_4 rfl rfl rfl dX8_offerPasses_18 h (fun _ hv => x_X6_get xT_4 hv) (fun v5 h => ?_)
      refine X_iload (x := i4) dX8_offerPasses_21 rfl ?_
      refine X_sP (μ' := mX2_speedOf) [.int v5, .int i4] [] kL_RX8_322 kM_X2_speedOf rfl rfl rfl dX8_offerPasses_23 h (fun _ hv => x_X2_speedOf hv) (fun v6 h => ?_)
      refine X_istoreL (fun v7 => [.ref 0, .int i1, .int i2, .int i3, .int i4, .int v7]) dX8_offerPasses_26 (Nat.le_of_ble_eq_true rfl) (Nat.le_of_ble_eq_true rfl) (xcat1_of rfl) h (fun _ => rfl) (fun v7 h => ?_)
      refine X_aload_n (x := 0) dX8_offerPasses_28 rfl ?_
      refine X_iload_n (x := i2) dX8_offerPasses_29 rfl ?_
      refine X_iload (x := v7) dX8_offerPasses_30 rfl ?_
      refine X_vP (μ' := mX8_canPlay) [.int i2, .int v7] [] kL_RX8_245 kM_X8_canPlay rv_0 rfl rfl rfl dX8_offerPasses_32 h (fun _ hv => x_X8_canPlay hv) (fun v8 h => ?_)
      refine X_if_eq 72 dX8_offerPasses_35 (by decide) h (fun h => ?_) (fun h => ?_)
      · exact x_X8_offerPasses_72 ih h
      · refine X_aload_n (x := 0) dX8_offerPasses_38 rfl ?_
        refine X_get (v := .ref 144) kF_RX8_43 sh_0 rfl rfl dX8_offerPasses_39 ?_
        refine X_aload_n (x := 0) dX8_offerPasses_42 rfl ?_
        refine X_iload_n (x := i1) dX8_offerPasses_43 rfl ?_
        refine X_iload_n (x := i2) dX8_offerPasses_44 rfl ?_
        refine X_iload (x := v7) dX8_offerPasses_45 rfl ?_
        refine X_iconst 0 dX8_offerPasses_47 rfl ?_
        refine X_iload_n (x := i3) dX8_offerPasses_48 rfl ?_
        refine X_vP (μ' := mX8_tracksHeard) [.int i1, .int i2, .int v7, .int 0, .int i3] [.ref 144] kL_RX8_289 kM_X8_tracksHeard rv_0 rfl rfl rfl dX8_offerPasses_49 h (fun _ hv => x_X8_tracksHeard hv) (fun v9 h => ?_)
        refine X_vV (μ' := mX0_addOffer) [.int v9] [] kL_RX8_335 kM_X0_addOffer rv_144 rfl rfl rfl dX8_offerPasses_52 h (fun _ hv => x_X0_addOffer hv) (fun M10 h => ?_)
        refine X_aload_n (x := 0) dX8_offerPasses_55 rfl ?_
        refine X_get (v := .ref 144) kF_RX8_43 sh_0 rfl rfl dX8_offerPasses_56 ?_
        refine X_aload_n (x := 0) dX8_offerPasses_59 rfl ?_
        refine X_iload_n (x := i1) dX8_offerPasses_60 rfl ?_
        refine X_iload_n (x := i2) dX8_offerPasses_61 rfl ?_
        refine X_iload (x := v7) dX8_offerPasses_62 rfl ?_
        refine X_iconst 1 dX8_offerPasses_64 rfl ?_
        refine X_iload_n (x := i3) dX8_offerPasses_65 rfl ?_
        refine X_vP (μ' := mX8_tracksHeard) [.int i1, .int i2, .int v7, .int 1, .int i3] [.ref 144] kL_RX8_289 kM_X8_tracksHeard rv_0 rfl rfl rfl dX8_offerPasses_66 h (fun _ hv => x_X8_tracksHeard hv) (fun v11 h => ?_)
        refine X_vV (μ' := mX0_addOffer) [.int v11] [] kL_RX8_335 kM_X0_addOffer rv_144 rfl rfl rfl dX8_offerPasses_69 h (fun _ hv => x_X0_addOffer hv) (fun M12 h => ?_)
        exact x_X8_offerPasses_72 ih h
def f_X8_offerPasses (M : xM) (a1 a2 a3 : Int32) : Option xM :=
  xl (0 : Int32) fun v13 =>
  f_X8_offerPasses_3 xFU M a1 a2 a3 v13
set_option maxHeartbeats 1000000 in
theorem x_X8_offerPasses {ξ : xX} {M : xM} {a1 a2 a3 : Int32} {z : xM} (h : f_X8_offerPasses M a1 a2 a3 = some z) : X ξ mX8_offerPasses 0 [.ref 0, .int a1, .int a2, .int a3] [] SH M 0 0 (xr none SH z) := by
  rw [f_X8_offerPasses] at h
  refine X_iconst 0 dX8_offerPasses_0 rfl ?_
  refine X_istoreL (fun v13 => [.ref 0, .int a1, .int a2, .int a3, .int v13]) dX8_offerPasses_1 (Nat.le_of_ble_eq_true rfl) (Nat.le_of_ble_eq_true rfl) (xcat1_of rfl) h (fun _ => rfl) (fun v13 h => ?_)
  exact x_X8_offerPasses_3 _ _ _ _ _ _ _ h
def f_X8_fewestPasses_87 (k38 : xM → Int32 → Int32 → Int32 → Option (Int32 × xM)) (M : xM) (i1 : Int32) (i2 : Int32) (i3 : Int32) : Option (Int32 × xM) :=
  xl (i3 + 1) fun v5 =>
  k38 M i1 i2 v5
set_option maxHeartbeats 1000000 in
theorem x_X8_fewestPasses_87 {ξ : xX} {M : xM} {k38 : xM → Int32 → Int32 → Int32 → Option (Int32 × xM)} {i1 : Int32} {i2 : Int32} {i3 : Int32} (hk38 : ∀ (M : xM) (j1 j2 j3 : Int32) (z : (Int32 × xM)), k38 M j1 j2 j3 = some z → X ξ mX8_fewestPasses 38 [.ref 0, .int j1, .int j2, .int j3] [] SH M 0 0 (xr (some (.int z.1)) SH z.2)) {z : (Int32 × xM)} (h : f_X8_fewestPasses_87 k38 M i1 i2 i3 = some z) : X ξ mX8_fewestPasses 87 [.ref 0, .int i1, .int i2, .int i3] [] SH M 0 0 (xr (some (.int z.1)) SH z.2) := by
  rw [f_X8_fewestPasses_87] at h
  refine X_iincL (x := i3) 1 (fun v5 => [.ref 0, .int i1, .int i2, .int v5]) dX8_fewestPasses_87 rfl rfl (Nat.le_of_ble_eq_true rfl) (xcat1_of rfl) h (fun _ => rfl) (fun v5 h => ?_)
  refine X_goto 38 dX8_fewestPasses_90 (by decide) ?_
  exact hk38 _ _ _ _ _ h
def f_X8_fewestPasses_125 (k95 : xM → Int32 → Int32 → Int32 → Option (Int32 × xM)) (M : xM) (i1 : Int32) (i2 : Int32) (i3 : Int32) : Option (Int32 × xM) :=
  xl (i3 + 1) fun v6 =>
  k95 M i1 i2 v6
set_option maxHeartbeats 1000000 in
theorem x_X8_fewestPasses_125 {ξ : xX} {M : xM} {k95 : xM → Int32 → Int32 → Int32 → Option (Int32 × xM)} {i1 : Int32} {i2 : Int32} {i3 : Int32} (hk95 : ∀ (M : xM) (j1 j2 j3 : Int32) (z : (Int32 × xM)), k95 M j1 j2 j3 = some z → X ξ mX8_fewestPasses 95 [.ref 0, .int j1, .int j2, .int j3] [] SH M 0 0 (xr (some (.int z.1)) SH z.2)) {z : (Int32 × xM)} (h : f_X8_fewestPasses_125 k95 M i1 i2 i3 = some z) : X ξ mX8_fewestPasses 125 [.ref 0, .int i1, .int i2, .int i3] [] SH M 0 0 (xr (some (.int z.1)) SH z.2) := by
  rw [f_X8_fewestPasses_125] at h
  refine X_iincL (x := i3) 1 (fun v6 => [.ref 0, .int i1, .int i2, .int v6]) dX8_fewestPasses_125 rfl rfl (Nat.le_of_ble_eq_true rfl) (xcat1_of rfl) h (fun _ => rfl) (fun v6 h => ?_)
  refine X_goto 95 dX8_fewestPasses_128 (by decide) ?_
  exact hk95 _ _ _ _ _ h
def f_X8_fewestPasses_95 : Nat → xM → Int32 → Int32 → Int32 → Option (Int32 × xM)
  | 0, _, _, _, _ => none
  | fu + 1, M, i1, i2, i3 =>
    if (M 4 2) ≤ i3 then (
      xb2 (f_X0_findFewest M) fun v7 M8 =>
      some (v7, M8))
    else (
      xb (f_X8_isSameKind M i1 i3) fun v9 =>
      if v9 = 0 then (
        f_X8_fewestPasses_125 (f_X8_fewestPasses_95 fu) M i1 i2 i3)
      else (
        xb (f_X8_offerPasses M i1 i3 i2) fun M10 =>
        f_X8_fewestPasses_125 (f_X8_fewestPasses_95 fu) M10 i1 i2 i3))
set_option maxHeartbeats 1000000 in
theorem x_X8_fewestPasses_95 {ξ : xX} : ∀ (fu : Nat) (M : xM) (i1 i2 i3 : Int32) (z : (Int32 × xM)), f_X8_fewestPasses_95 fu M i1 i2 i3 = some z → X ξ mX8_fewestPasses 95 [.ref 0, .int i1, .int i2, .int i3] [] SH M 0 0 (xr (some (.int z.1)) SH z.2) := by
  intro fu
  induction fu with
  | zero => intro M i1 i2 i3 z h; rw [f_X8_fewestPasses_95] at h; cases h
  | succ fu ih =>
    intro M i1 i2 i3 z h
    rw [f_X8_fewestPasses_95] at h
    refine X_iload_n (x := i3) dX8_fewestPasses_95 rfl ?_
    refine X_aload_n (x := 0) dX8_fewestPasses_96 rfl ?_
    refine X_get (v := .ref 1) kF_RX8_10 sh_0 rfl rfl dX8_fewestPasses_97 ?_
    refine X_get (v := .ref 4) kF_RX8_91 sh_1 rfl rfl dX8_fewestPasses_100 ?_
    refine X_get (v := .int (M 4 2)) kF_RX8_236 sh_4 rfl rfl dX8_fewestPasses_103 ?_
    refine X_icmp_ge 131 dX8_fewestPasses_106 (by decide) h (fun h => ?_) (fun h => ?_)
    · refine X_aload_n (x := 0) dX8_fewestPasses_131 rfl ?_
      refine X_get (v := .ref 144) kF_RX8_43 sh_0 rfl rfl dX8_fewestPasses_132 ?_
      refine X_vI (μ' := mX0_findFewest) [] [] kL_RX8_273 kM_X0_findFewest rv_144 rfl rfl rfl dX8_fewestPasses_135 h (fun _ hv => x_X0_findFewest hv) (fun v7 M8 h => ?_)
      exact X_retI dX8_fewestPasses_138 rfl (Nat.le_refl _) (Nat.le_refl _) h
    · refine X_aload_n (x := 0) dX8_fewestPasses_109 rfl ?_
      refine X_iload_n (x := i1) dX8_fewestPasses_110 rfl ?_
      refine X_iload_n (x := i3) dX8_fewestPasses_111 rfl ?_
      refine X_vP (μ' := mX8_isSameKind) [.int i1, .int i3] [] kL_RX8_251 kM_X8_isSameKind rv_0 rfl rfl rfl dX8_fewestPasses_112 h (fun _ hv => x_X8_isSameKind hv) (fun v9 h => ?_)
      refine X_if_eq 125 dX8_fewestPasses_115 (by decide) h (fun h => ?_) (fun h => ?_)
      · exact x_X8_fewestPasses_125 ih h
      · refine X_aload_n (x := 0) dX8_fewestPasses_118 rfl ?_
        refine X_iload_n (x := i1) dX8_fewestPasses_119 rfl ?_
        refine X_iload_n (x := i3) dX8_fewestPasses_120 rfl ?_
        refine X_iload_n (x := i2) dX8_fewestPasses_121 rfl ?_
        refine X_vV (μ' := mX8_offerPasses) [.int i1, .int i3, .int i2] [] kL_RX8_270 kM_X8_offerPasses rv_0 rfl rfl rfl dX8_fewestPasses_122 h (fun _ hv => x_X8_offerPasses hv) (fun M10 h => ?_)
        exact x_X8_fewestPasses_125 ih h
def f_X8_fewestPasses_38 : Nat → xM → Int32 → Int32 → Int32 → Option (Int32 × xM)
  | 0, _, _, _, _ => none
  | fu + 1, M, i1, i2, i3 =>
    if (M 6 2) ≤ i3 then (
      xl (0 : Int32) fun v11 =>
      f_X8_fewestPasses_95 xFU M i1 i2 v11)
    else (
      xb (f_X6_get 6 7 96 M i3 0) fun v12 =>
      if v12 = i1 then (
        xb (f_X6_get 6 7 96 M i3 1) fun v13 =>
        xb (f_X0_addNeed M v13) fun M14 =>
        f_X8_fewestPasses_87 (f_X8_fewestPasses_38 fu) M14 i1 i2 i3)
      else (
        f_X8_fewestPasses_87 (f_X8_fewestPasses_38 fu) M i1 i2 i3))
set_option maxHeartbeats 1000000 in
theorem x_X8_fewestPasses_38 {ξ : xX} : ∀ (fu : Nat) (M : xM) (i1 i2 i3 : Int32) (z : (Int32 × xM)), f_X8_fewestPasses_38 fu M i1 i2 i3 = some z → X ξ mX8_fewestPasses 38 [.ref 0, .int i1, .int i2, .int i3] [] SH M 0 0 (xr (some (.int z.1)) SH z.2) := by
  intro fu
  induction fu with
  | zero => intro M i1 i2 i3 z h; rw [f_X8_fewestPasses_38] at h; cases h
  | succ fu ih =>
    intro M i1 i2 i3 z h
    rw [f_X8_fewestPasses_38] at h
    refine X_iload_n (x := i3) dX8_fewestPasses_38 rfl ?_
    refine X_aload_n (x := 0) dX8_fewestPasses_39 rfl ?_
    refine X_get (v := .ref 1) kF_RX8_10 sh_0 rfl rfl dX8_fewestPasses_40 ?_
    refine X_get (v := .ref 6) kF_RX8_109 sh_1 rfl rfl dX8_fewestPasses_43 ?_
    refine X_get (v := .int (M 6 2)) kF_RX8_236 sh_6 rfl rfl dX8_fewestPasses_46 ?_
    refine X_icmp_ge 93 dX8_fewestPasses_49 (by decide) h (fun h => ?_) (fun h => ?_)
    · refine X_iconst 0 dX8_fewestPasses_93 rfl ?_
      refine X_istoreL_n (fun v11 => [.ref 0, .int i1, .int i2, .int v11]) dX8_fewestPasses_94 (Nat.le_of_ble_eq_true rfl) (Nat.le_of_ble_eq_true rfl) (xcat1_of rfl) h (fun _ => rfl) (fun v11 h => ?_)
      exact x_X8_fewestPasses_95 _ _ _ _ _ _ h
    · refine X_aload_n (x := 0) dX8_fewestPasses_52 rfl ?_
      refine X_get (v := .ref 1) kF_RX8_10 sh_0 rfl rfl dX8_fewestPasses_53 ?_
      refine X_get (v := .ref 6) kF_RX8_109 sh_1 rfl rfl dX8_fewestPasses_56 ?_
      refine X_iload_n (x := i3) dX8_fewestPasses_59 rfl ?_
      refine X_iconst 0 dX8_fewestPasses_60 rfl ?_
      refine X_vP (μ' := mX6_get) [.int i3, .int 0] [] kL_RX8_98 kM_X6_get rv_6 rfl rfl rfl dX8_fewestPasses_61 h (fun _ hv => x_X6_get xT_6 hv) (fun v12 h => ?_)
      refine X_iload_n (x := i1) dX8_fewestPasses_64 rfl ?_
      refine X_icmp_ne 87 dX8_fewestPasses_65 (by decide) h (fun h => ?_) (fun h => ?_)
      · exact x_X8_fewestPasses_87 ih h
      · refine X_aload_n (x := 0) dX8_fewestPasses_68 rfl ?_
        refine X_get (v := .ref 144) kF_RX8_43 sh_0 rfl rfl dX8_fewestPasses_69 ?_
        refine X_aload_n (x := 0) dX8_fewestPasses_72 rfl ?_
        refine X_get (v := .ref 1) kF_RX8_10 sh_0 rfl rfl dX8_fewestPasses_73 ?_
        refine X_get (v := .ref 6) kF_RX8_109 sh_1 rfl rfl dX8_fewestPasses_76 ?_
        refine X_iload_n (x := i3) dX8_fewestPasses_79 rfl ?_
        refine X_iconst 1 dX8_fewestPasses_80 rfl ?_
        refine X_vP (μ' := mX6_get) [.int i3, .int 1] [.ref 144] kL_RX8_98 kM_X6_get rv_6 rfl rfl rfl dX8_fewestPasses_81 h (fun _ hv => x_X6_get xT_6 hv) (fun v13 h => ?_)
        refine X_vV (μ' := mX0_addNeed) [.int v13] [] kL_RX8_266 kM_X0_addNeed rv_144 rfl rfl rfl dX8_fewestPasses_84 h (fun _ hv => x_X0_addNeed hv) (fun M14 h => ?_)
        exact x_X8_fewestPasses_87 ih h
def f_X8_fewestPasses (M : xM) (a1 a2 : Int32) : Option (Int32 × xM) :=
  xb (f_X6_has 2 3 56 M a1) fun v15 =>
  if v15 = 0 then (
    some ((-1), M))
  else (
    xb (f_X8_isWithin a2 1 100) fun v16 =>
    if v16 = 0 then (
      some ((-2), M))
    else (
      xb (f_X0_clear M) fun M17 =>
      xl (0 : Int32) fun v18 =>
      f_X8_fewestPasses_38 xFU M17 a1 a2 v18))
set_option maxHeartbeats 1000000 in
theorem x_X8_fewestPasses {ξ : xX} {M : xM} {a1 a2 : Int32} {z : (Int32 × xM)} (h : f_X8_fewestPasses M a1 a2 = some z) : X ξ mX8_fewestPasses 0 [.ref 0, .int a1, .int a2] [] SH M 0 0 (xr (some (.int z.1)) SH z.2) := by
  rw [f_X8_fewestPasses] at h
  refine X_aload_n (x := 0) dX8_fewestPasses_0 rfl ?_
  refine X_get (v := .ref 1) kF_RX8_10 sh_0 rfl rfl dX8_fewestPasses_1 ?_
  refine X_get (v := .ref 2) kF_RX8_65 sh_1 rfl rfl dX8_fewestPasses_4 ?_
  refine X_iload_n (x := a1) dX8_fewestPasses_7 rfl ?_
  refine X_vP (μ' := mX6_has) [.int a1] [] kL_RX8_94 kM_X6_has rv_2 rfl rfl rfl dX8_fewestPasses_8 h (fun _ hv => x_X6_has xT_2 hv) (fun v15 h => ?_)
  refine X_if_ne 16 dX8_fewestPasses_11 (by decide) h (fun h => ?_) (fun h => ?_)
  · refine X_iload_n (x := a2) dX8_fewestPasses_16 rfl ?_
    refine X_iconst 1 dX8_fewestPasses_17 rfl ?_
    refine X_bipush 100 dX8_fewestPasses_18 rfl ?_
    refine X_sP (μ' := mX8_isWithin) [.int a2, .int 1, .int 100] [] kL_RX8_61 kM_X8_isWithin rfl rfl rfl dX8_fewestPasses_20 h (fun _ hv => x_X8_isWithin hv) (fun v16 h => ?_)
    refine X_if_ne 29 dX8_fewestPasses_23 (by decide) h (fun h => ?_) (fun h => ?_)
    · refine X_aload_n (x := 0) dX8_fewestPasses_29 rfl ?_
      refine X_get (v := .ref 144) kF_RX8_43 sh_0 rfl rfl dX8_fewestPasses_30 ?_
      refine X_vV (μ' := mX0_clear) [] [] kL_RX8_263 kM_X0_clear rv_144 rfl rfl rfl dX8_fewestPasses_33 h (fun _ hv => x_X0_clear hv) (fun M17 h => ?_)
      refine X_iconst 0 dX8_fewestPasses_36 rfl ?_
      refine X_istoreL_n (fun v18 => [.ref 0, .int a1, .int a2, .int v18]) dX8_fewestPasses_37 (Nat.le_of_ble_eq_true rfl) (Nat.le_of_ble_eq_true rfl) (xcat1_of rfl) h (fun _ => rfl) (fun v18 h => ?_)
      exact x_X8_fewestPasses_38 _ _ _ _ _ _ h
    · refine X_bipush (-2) dX8_fewestPasses_26 rfl ?_
      exact X_retI dX8_fewestPasses_28 rfl (Nat.le_refl _) (Nat.le_refl _) h
  · refine X_iconst (-1) dX8_fewestPasses_14 rfl ?_
    exact X_retI dX8_fewestPasses_15 rfl (Nat.le_refl _) (Nat.le_refl _) h
