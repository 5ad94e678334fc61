def f_X0_clear (M : xM) : Option xM :=
  xl (xw M 144 3 0) fun M1 =>
  xl (xw M1 144 4 0) fun M2 =>
  some M2
set_option maxHeartbeats 1000000 in
theorem x_X0_clear {ξ : xX} {M : xM} {z : xM} (h : f_X0_clear M = some z) : X ξ mX0_clear 0 [.ref 144] [] SH M 0 0 (xr none SH z) := by
  rw [f_X0_clear] at h
  refine X_aload_n (x := 144) dX0_clear_0 rfl ?_
  refine X_iconst 0 dX0_clear_1 rfl ?_
  refine X_putI kF_RX0_21 sh_144 rfl rfl rfl dX0_clear_2 h (fun M1 h => ?_)
  refine X_aload_n (x := 144) dX0_clear_5 rfl ?_
  refine X_iconst 0 dX0_clear_6 rfl ?_
  refine X_putI kF_RX0_25 sh_144 rfl rfl rfl dX0_clear_7 h (fun M2 h => ?_)
  exact X_retV dX0_clear_10 rfl (Nat.le_refl _) (Nat.le_refl _) h
def f_X0_addNeed_36 (M : xM) (i1 : Int32) (i2 : Int32) : Option xM :=
  if (M 144 3) < 0 then (
    some M)
  else (
    if 6 ≤ (M 144 3) then (
      some M)
    else (
      xgd (xin (M 144 3) 6) <| xl (xw M 145 (M 144 3).toNatClampNeg i1) fun M3 =>
      xl (xw M3 144 3 ((M3 144 3) + 1)) fun M4 =>
      some M4))
set_option maxHeartbeats 1000000 in
theorem x_X0_addNeed_36 {ξ : xX} {M : xM} {i1 : Int32} {i2 : Int32} {z : xM} (h : f_X0_addNeed_36 M i1 i2 = some z) : X ξ mX0_addNeed 36 [.ref 144, .int i1, .int i2] [] SH M 0 0 (xr none SH z) := by
  rw [f_X0_addNeed_36] at h
  refine X_aload_n (x := 144) dX0_addNeed_36 rfl ?_
  refine X_get (v := .int (M 144 3)) kF_RX0_21 sh_144 rfl rfl dX0_addNeed_37 ?_
  refine X_if_lt 75 dX0_addNeed_40 (by decide) h (fun h => ?_) (fun h => ?_)
  · exact X_retV dX0_addNeed_75 rfl (Nat.le_refl _) (Nat.le_refl _) h
  · refine X_aload_n (x := 144) dX0_addNeed_43 rfl ?_
    refine X_get (v := .int (M 144 3)) kF_RX0_21 sh_144 rfl rfl dX0_addNeed_44 ?_
    refine X_aload_n (x := 144) dX0_addNeed_47 rfl ?_
    refine X_get (v := .ref 145) kF_RX0_11 sh_144 rfl rfl dX0_addNeed_48 ?_
    refine X_alen 6 sh_145 rfl dX0_addNeed_51 ?_
    refine X_icmp_ge 75 dX0_addNeed_52 (by decide) h (fun h => ?_) (fun h => ?_)
    · exact X_retV dX0_addNeed_75 rfl (Nat.le_refl _) (Nat.le_refl _) h
    · refine X_aload_n (x := 144) dX0_addNeed_55 rfl ?_
      refine X_get (v := .ref 145) kF_RX0_11 sh_144 rfl rfl dX0_addNeed_56 ?_
      refine X_aload_n (x := 144) dX0_addNeed_59 rfl ?_
      refine X_get (v := .int (M 144 3)) kF_RX0_21 sh_144 rfl rfl dX0_addNeed_60 ?_
      refine X_iload_n (x := i1) dX0_addNeed_63 rfl ?_
      refine X_iast sh_145 dX0_addNeed_64 h (fun M3 h => ?_)
      refine X_aload_n (x := 144) dX0_addNeed_65 rfl ?_
      refine X_dup dX0_addNeed_66 rfl ?_
      refine X_get (v := .int (M3 144 3)) kF_RX0_21 sh_144 rfl rfl dX0_addNeed_67 ?_
      refine X_iconst 1 dX0_addNeed_70 rfl ?_
      refine X_iadd dX0_addNeed_71 ?_
      refine X_putI kF_RX0_21 sh_144 rfl rfl rfl dX0_addNeed_72 h (fun M4 h => ?_)
      exact X_retV dX0_addNeed_75 rfl (Nat.le_refl _) (Nat.le_refl _) h
def f_X0_addNeed_2 : Nat → xM → Int32 → Int32 → Option xM
  | 0, _, _, _ => none
  | fu + 1, M, i1, i2 =>
    if (M 144 3) ≤ i2 then (
      f_X0_addNeed_36 M i1 i2)
    else (
      if 6 ≤ i2 then (
        f_X0_addNeed_36 M i1 i2)
      else (
        xgd (xin i2 6) <|
        if (M 145 i2.toNatClampNeg) = i1 then (
          some M)
        else (
          xl (i2 + 1) fun v5 =>
          (f_X0_addNeed_2 fu) M i1 v5)))
set_option maxHeartbeats 1000000 in
theorem x_X0_addNeed_2 {ξ : xX} : ∀ (fu : Nat) (M : xM) (i1 i2 : Int32) (z : xM), f_X0_addNeed_2 fu M i1 i2 = some z → X ξ mX0_addNeed 2 [.ref 144, .int i1, .int i2] [] SH M 0 0 (xr none SH z) := by
  intro fu
  induction fu with
  | zero => intro M i1 i2 z h; rw [f_X0_addNeed_2] at h; cases h
  | succ fu ih =>
    intro M i1 i2 z h
    rw [f_X0_addNeed_2] at h
    refine X_iload_n (x := i2) dX0_addNeed_2 rfl ?_
    refine X_aload_n (x := 144) dX0_addNeed_3 rfl ?_
    refine X_get (v := .int (M 144 3)) kF_RX0_21 sh_144 rfl rfl dX0_addNeed_4 ?_
    refine X_icmp_ge 36 dX0_addNeed_7 (by decide) h (fun h => ?_) (fun h => ?_)
    · exact x_X0_addNeed_36 h
    · refine X_iload_n (x := i2) dX0_addNeed_10 rfl ?_
      refine X_aload_n (x := 144) dX0_addNeed_11 rfl ?_
      refine X_get (v := .ref 145) kF_RX0_11 sh_144 rfl rfl dX0_addNeed_12 ?_
      refine X_alen 6 sh_145 rfl dX0_addNeed_15 ?_
      refine X_icmp_ge 36 dX0_addNeed_16 (by decide) h (fun h => ?_) (fun h => ?_)
      · exact x_X0_addNeed_36 h
      · refine X_aload_n (x := 144) dX0_addNeed_19 rfl ?_
        refine X_get (v := .ref 145) kF_RX0_11 sh_144 rfl rfl dX0_addNeed_20 ?_
        refine X_iload_n (x := i2) dX0_addNeed_23 rfl ?_
        refine X_iald sh_145 dX0_addNeed_24 h (fun h => ?_)
        refine X_iload_n (x := i1) dX0_addNeed_25 rfl ?_
        refine X_icmp_ne 30 dX0_addNeed_26 (by decide) h (fun h => ?_) (fun h => ?_)
        · refine X_iincL (x := i2) 1 (fun v5 => [.ref 144, .int i1, .int v5]) dX0_addNeed_30 rfl rfl (Nat.le_of_ble_eq_true rfl) (xcat1_of rfl) h (fun _ => rfl) (fun v5 h => ?_)
          refine X_goto 2 dX0_addNeed_33 (by decide) ?_
          exact ih _ _ _ _ h
        · exact X_retV dX0_addNeed_29 rfl (Nat.le_refl _) (Nat.le_refl _) h
def f_X0_addNeed (M : xM) (a1 : Int32) : Option xM :=
  xl (0 : Int32) fun v6 =>
  f_X0_addNeed_2 xFU M a1 v6
set_option maxHeartbeats 1000000 in
theorem x_X0_addNeed {ξ : xX} {M : xM} {a1 : Int32} {z : xM} (h : f_X0_addNeed M a1 = some z) : X ξ mX0_addNeed 0 [.ref 144, .int a1] [] SH M 0 0 (xr none SH z) := by
  rw [f_X0_addNeed] at h
  refine X_iconst 0 dX0_addNeed_0 rfl ?_
  refine X_istoreL_n (fun v6 => [.ref 144, .int a1, .int v6]) dX0_addNeed_1 (Nat.le_of_ble_eq_true rfl) (Nat.le_of_ble_eq_true rfl) (xcat1_of rfl) h (fun _ => rfl) (fun v6 h => ?_)
  exact x_X0_addNeed_2 _ _ _ _ _ h
def f_X0_addOffer_40 (k4 : xM → Int32 → Int32 → Int32 → Option xM) (M : xM) (i1 : Int32) (i2 : Int32) (i3 : Int32) : Option xM :=
  xl (i3 + 1) fun v7 =>
  k4 M i1 i2 v7
set_option maxHeartbeats 1000000 in
theorem x_X0_addOffer_40 {ξ : xX} {M : xM} {k4 : xM → Int32 → Int32 → Int32 → Option xM} {i1 : Int32} {i2 : Int32} {i3 : Int32} (hk4 : ∀ (M : xM) (j1 j2 j3 : Int32) (z : xM), k4 M j1 j2 j3 = some z → X ξ mX0_addOffer 4 [.ref 144, .int j1, .int j2, .int j3] [] SH M 0 0 (xr none SH z)) {z : xM} (h : f_X0_addOffer_40 k4 M i1 i2 i3 = some z) : X ξ mX0_addOffer 40 [.ref 144, .int i1, .int i2, .int i3] [] SH M 0 0 (xr none SH z) := by
  rw [f_X0_addOffer_40] at h
  refine X_iincL (x := i3) 1 (fun v7 => [.ref 144, .int i1, .int i2, .int v7]) dX0_addOffer_40 rfl rfl (Nat.le_of_ble_eq_true rfl) (xcat1_of rfl) h (fun _ => rfl) (fun v7 h => ?_)
  refine X_goto 4 dX0_addOffer_43 (by decide) ?_
  exact hk4 _ _ _ _ _ h
def f_X0_addOffer_82 (M : xM) (i1 : Int32) (i2 : Int32) (i3 : Int32) : Option xM :=
  if i2 = 0 then (
    some M)
  else (
    if (M 144 4) < 0 then (
      some M)
    else (
      if 24 ≤ (M 144 4) then (
        some M)
      else (
        xgd (xin (M 144 4) 24) <| xl (xw M 146 (M 144 4).toNatClampNeg i2) fun M8 =>
        xl (xw M8 144 4 ((M8 144 4) + 1)) fun M9 =>
        some M9)))
set_option maxHeartbeats 1000000 in
theorem x_X0_addOffer_82 {ξ : xX} {M : xM} {i1 : Int32} {i2 : Int32} {i3 : Int32} {z : xM} (h : f_X0_addOffer_82 M i1 i2 i3 = some z) : X ξ mX0_addOffer 82 [.ref 144, .int i1, .int i2, .int i3] [] SH M 0 0 (xr none SH z) := by
  rw [f_X0_addOffer_82] at h
  refine X_iload_n (x := i2) dX0_addOffer_82 rfl ?_
  refine X_if_eq 125 dX0_addOffer_83 (by decide) h (fun h => ?_) (fun h => ?_)
  · exact X_retV dX0_addOffer_125 rfl (Nat.le_refl _) (Nat.le_refl _) h
  · refine X_aload_n (x := 144) dX0_addOffer_86 rfl ?_
    refine X_get (v := .int (M 144 4)) kF_RX0_25 sh_144 rfl rfl dX0_addOffer_87 ?_
    refine X_if_lt 125 dX0_addOffer_90 (by decide) h (fun h => ?_) (fun h => ?_)
    · exact X_retV dX0_addOffer_125 rfl (Nat.le_refl _) (Nat.le_refl _) h
    · refine X_aload_n (x := 144) dX0_addOffer_93 rfl ?_
      refine X_get (v := .int (M 144 4)) kF_RX0_25 sh_144 rfl rfl dX0_addOffer_94 ?_
      refine X_aload_n (x := 144) dX0_addOffer_97 rfl ?_
      refine X_get (v := .ref 146) kF_RX0_15 sh_144 rfl rfl dX0_addOffer_98 ?_
      refine X_alen 24 sh_146 rfl dX0_addOffer_101 ?_
      refine X_icmp_ge 125 dX0_addOffer_102 (by decide) h (fun h => ?_) (fun h => ?_)
      · exact X_retV dX0_addOffer_125 rfl (Nat.le_refl _) (Nat.le_refl _) h
      · refine X_aload_n (x := 144) dX0_addOffer_105 rfl ?_
        refine X_get (v := .ref 146) kF_RX0_15 sh_144 rfl rfl dX0_addOffer_106 ?_
        refine X_aload_n (x := 144) dX0_addOffer_109 rfl ?_
        refine X_get (v := .int (M 144 4)) kF_RX0_25 sh_144 rfl rfl dX0_addOffer_110 ?_
        refine X_iload_n (x := i2) dX0_addOffer_113 rfl ?_
        refine X_iast sh_146 dX0_addOffer_114 h (fun M8 h => ?_)
        refine X_aload_n (x := 144) dX0_addOffer_115 rfl ?_
        refine X_dup dX0_addOffer_116 rfl ?_
        refine X_get (v := .int (M8 144 4)) kF_RX0_25 sh_144 rfl rfl dX0_addOffer_117 ?_
        refine X_iconst 1 dX0_addOffer_120 rfl ?_
        refine X_iadd dX0_addOffer_121 ?_
        refine X_putI kF_RX0_25 sh_144 rfl rfl rfl dX0_addOffer_122 h (fun M9 h => ?_)
        exact X_retV dX0_addOffer_125 rfl (Nat.le_refl _) (Nat.le_refl _) h
def f_X0_addOffer_48 : Nat → xM → Int32 → Int32 → Int32 → Option xM
  | 0, _, _, _, _ => none
  | fu + 1, M, i1, i2, i3 =>
    if (M 144 4) ≤ i3 then (
      f_X0_addOffer_82 M i1 i2 i3)
    else (
      if 24 ≤ i3 then (
        f_X0_addOffer_82 M i1 i2 i3)
      else (
        xgd (xin i3 24) <|
        if (M 146 i3.toNatClampNeg) = i2 then (
          some M)
        else (
          xl (i3 + 1) fun v10 =>
          (f_X0_addOffer_48 fu) M i1 i2 v10)))
set_option maxHeartbeats 1000000 in
theorem x_X0_addOffer_48 {ξ : xX} : ∀ (fu : Nat) (M : xM) (i1 i2 i3 : Int32) (z : xM), f_X0_addOffer_48 fu M i1 i2 i3 = some z → X ξ mX0_addOffer 48 [.ref 144, .int i1, .int i2, .int i3] [] SH M 0 0 (xr none SH z) := by
  intro fu
  induction fu with
  | zero => intro M i1 i2 i3 z h; rw [f_X0_addOffer_48] at h; cases h
  | succ fu ih =>
    intro M i1 i2 i3 z h
    rw [f_X0_addOffer_48] at h
    refine X_iload_n (x := i3) dX0_addOffer_48 rfl ?_
    refine X_aload_n (x := 144) dX0_addOffer_49 rfl ?_
    refine X_get (v := .int (M 144 4)) kF_RX0_25 sh_144 rfl rfl dX0_addOffer_50 ?_
    refine X_icmp_ge 82 dX0_addOffer_53 (by decide) h (fun h => ?_) (fun h => ?_)
    · exact x_X0_addOffer_82 h
    · refine X_iload_n (x := i3) dX0_addOffer_56 rfl ?_
      refine X_aload_n (x := 144) dX0_addOffer_57 rfl ?_
      refine X_get (v := .ref 146) kF_RX0_15 sh_144 rfl rfl dX0_addOffer_58 ?_
      refine X_alen 24 sh_146 rfl dX0_addOffer_61 ?_
      refine X_icmp_ge 82 dX0_addOffer_62 (by decide) h (fun h => ?_) (fun h => ?_)
      · exact x_X0_addOffer_82 h
      · refine X_aload_n (x := 144) dX0_addOffer_65 rfl ?_
        refine X_get (v := .ref 146) kF_RX0_15 sh_144 rfl rfl dX0_addOffer_66 ?_
        refine X_iload_n (x := i3) dX0_addOffer_69 rfl ?_
        refine X_iald sh_146 dX0_addOffer_70 h (fun h => ?_)
        refine X_iload_n (x := i2) dX0_addOffer_71 rfl ?_
        refine X_icmp_ne 76 dX0_addOffer_72 (by decide) h (fun h => ?_) (fun h => ?_)
        · refine X_iincL (x := i3) 1 (fun v10 => [.ref 144, .int i1, .int i2, .int v10]) dX0_addOffer_76 rfl rfl (Nat.le_of_ble_eq_true rfl) (xcat1_of rfl) h (fun _ => rfl) (fun v10 h => ?_)
          refine X_goto 48 dX0_addOffer_79 (by decide) ?_
          exact ih _ _ _ _ _ h
        · exact X_retV dX0_addOffer_75 rfl (Nat.le_refl _) (Nat.le_refl _) h
def f_X0_addOffer_46 (M : xM) (i1 : Int32) (i2 : Int32) (i3 : Int32) : Option xM :=
  xl (0 : Int32) fun v11 =>
  f_X0_addOffer_48 xFU M i1 i2 v11
set_option maxHeartbeats 1000000 in
theorem x_X0_addOffer_46 {ξ : xX} {M : xM} {i1 : Int32} {i2 : Int32} {i3 : Int32} {z : xM} (h : f_X0_addOffer_46 M i1 i2 i3 = some z) : X ξ mX0_addOffer 46 [.ref 144, .int i1, .int i2, .int i3] [] SH M 0 0 (xr none SH z) := by
  rw [f_X0_addOffer_46] at h
  refine X_iconst 0 dX0_addOffer_46 rfl ?_
  refine X_istoreL_n (fun v11 => [.ref 144, .int i1, .int i2, .int v11]) dX0_addOffer_47 (Nat.le_of_ble_eq_true rfl) (Nat.le_of_ble_eq_true rfl) (xcat1_of rfl) h (fun _ => rfl) (fun v11 h => ?_)
  exact x_X0_addOffer_48 _ _ _ _ _ _ h
def f_X0_addOffer_4 : Nat → xM → Int32 → Int32 → Int32 → Option xM
  | 0, _, _, _, _ => none
  | fu + 1, M, i1, i2, i3 =>
    if (M 144 3) ≤ i3 then (
      f_X0_addOffer_46 M i1 i2 i3)
    else (
      if 6 ≤ i3 then (
        f_X0_addOffer_46 M i1 i2 i3)
      else (
        xgd (xin i3 6) <|
        if ((M 145 i3.toNatClampNeg) &&& (i1 ^^^ (-1))) = 0 then (
          xl (i2 ||| ((1 : Int32) <<< ((i3 : Int32) &&& 31))) fun v12 =>
          f_X0_addOffer_40 (f_X0_addOffer_4 fu) M i1 v12 i3)
        else (
          f_X0_addOffer_40 (f_X0_addOffer_4 fu) M i1 i2 i3)))
set_option maxHeartbeats 1000000 in
theorem x_X0_addOffer_4 {ξ : xX} : ∀ (fu : Nat) (M : xM) (i1 i2 i3 : Int32) (z : xM), f_X0_addOffer_4 fu M i1 i2 i3 = some z → X ξ mX0_addOffer 4 [.ref 144, .int i1, .int i2, .int i3] [] SH M 0 0 (xr none SH z) := by
  intro fu
  induction fu with
  | zero => intro M i1 i2 i3 z h; rw [f_X0_addOffer_4] at h; cases h
  | succ fu ih =>
    intro M i1 i2 i3 z h
    rw [f_X0_addOffer_4] at h
    refine X_iload_n (x := i3) dX0_addOffer_4 rfl ?_
    refine X_aload_n (x := 144) dX0_addOffer_5 rfl ?_
    refine X_get (v := .int (M 144 3)) kF_RX0_21 sh_144 rfl rfl dX0_addOffer_6 ?_
    refine X_icmp_ge 46 dX0_addOffer_9 (by decide) h (fun h => ?_) (fun h => ?_)
    · exact x_X0_addOffer_46 h
    · refine X_iload_n (x := i3) dX0_addOffer_12 rfl ?_
      refine X_aload_n (x := 144) dX0_addOffer_13 rfl ?_
      refine X_get (v := .ref 145) kF_RX0_11 sh_144 rfl rfl dX0_addOffer_14 ?_
      refine X_alen 6 sh_145 rfl dX0_addOffer_17 ?_
      refine X_icmp_ge 46 dX0_addOffer_18 (by decide) h (fun h => ?_) (fun h => ?_)
      · exact x_X0_addOffer_46 h
      · refine X_aload_n (x := 144) dX0_addOffer_21 rfl ?_
        refine X_get (v := .ref 145) kF_RX0_11 sh_144 rfl rfl dX0_addOffer_22 ?_
        refine X_iload_n (x := i3) dX0_addOffer_25 rfl ?_
        refine X_iald sh_145 dX0_addOffer_26 h (fun h => ?_)
        refine X_iload_n (x := i1) dX0_addOffer_27 rfl ?_
        refine X_iconst (-1) dX0_addOffer_28 rfl ?_
        refine X_ixor dX0_addOffer_29 ?_
        refine X_iand dX0_addOffer_30 ?_
        refine X_if_ne 40 dX0_addOffer_31 (by decide) h (fun h => ?_) (fun h => ?_)
        · exact x_X0_addOffer_40 ih h
        · refine X_iload_n (x := i2) dX0_addOffer_34 rfl ?_
          refine X_iconst 1 dX0_addOffer_35 rfl ?_
          refine X_iload_n (x := i3) dX0_addOffer_36 rfl ?_
          refine X_ishl dX0_addOffer_37 ?_
          refine X_ior dX0_addOffer_38 ?_
          refine X_istoreL_n (fun v12 => [.ref 144, .int i1, .int v12, .int i3]) dX0_addOffer_39 (Nat.le_of_ble_eq_true rfl) (Nat.le_of_ble_eq_true rfl) (xcat1_of rfl) h (fun _ => rfl) (fun v12 h => ?_)
          exact x_X0_addOffer_40 ih h
def f_X0_addOffer (M : xM) (a1 : Int32) : Option xM :=
  xl (0 : Int32) fun v13 =>
  xl (0 : Int32) fun v14 =>
  f_X0_addOffer_4 xFU M a1 v13 v14
set_option maxHeartbeats 1000000 in
theorem x_X0_addOffer {ξ : xX} {M : xM} {a1 : Int32} {z : xM} (h : f_X0_addOffer M a1 = some z) : X ξ mX0_addOffer 0 [.ref 144, .int a1] [] SH M 0 0 (xr none SH z) := by
  rw [f_X0_addOffer] at h
  refine X_iconst 0 dX0_addOffer_0 rfl ?_
  refine X_istoreL_n (fun v13 => [.ref 144, .int a1, .int v13]) dX0_addOffer_1 (Nat.le_of_ble_eq_true rfl) (Nat.le_of_ble_eq_true rfl) (xcat1_of rfl) h (fun _ => rfl) (fun v13 h => ?_)
  refine X_iconst 0 dX0_addOffer_2 rfl ?_
  refine X_istoreL_n (fun v14 => [.ref 144, .int a1, .int v13, .int v14]) dX0_addOffer_3 (Nat.le_of_ble_eq_true rfl) (Nat.le_of_ble_eq_true rfl) (xcat1_of rfl) h (fun _ => rfl) (fun v14 h => ?_)
  exact x_X0_addOffer_4 _ _ _ _ _ _ h
def f_X0_fewestFor_94 (M : xM) (k5 : Int32 → Int32 → Int32 → Option Int32) (i1 : Int32) (i2 : Int32) (i3 : Int32) (i4 : Int32) : Option Int32 :=
  xl (i3 + 1) fun v6 =>
  k5 i1 i2 v6
set_option maxHeartbeats 1000000 in
theorem x_X0_fewestFor_94 {ξ : xX} {M : xM} {k5 : Int32 → Int32 → Int32 → Option Int32} {i1 : Int32} {i2 : Int32} {i3 : Int32} {i4 : Int32} (hk5 : ∀ (j1 j2 j3 : Int32) (z : Int32), k5 j1 j2 j3 = some z → X ξ mX0_fewestFor 5 [.ref 144, .int j1, .int j2, .int j3] [] SH M 0 0 (xr (some (.int z)) SH M)) {z : Int32} (h : f_X0_fewestFor_94 M k5 i1 i2 i3 i4 = some z) : X ξ mX0_fewestFor 94 [.ref 144, .int i1, .int i2, .int i3, .int i4] [] SH M 0 0 (xr (some (.int z)) SH M) := by
  rw [f_X0_fewestFor_94] at h
  refine X_iincL (x := i3) 1 (fun v6 => [.ref 144, .int i1, .int i2, .int v6, .int i4]) dX0_fewestFor_94 rfl rfl (Nat.le_of_ble_eq_true rfl) (xcat1_of rfl) h (fun _ => rfl) (fun v6 h => ?_)
  refine X_goto 5 dX0_fewestFor_97 (by decide) ?_
  refine X_cut 4 ?_
  exact hk5 _ _ _ _ h
def f_X0_fewestFor_84 (M : xM) (k5 : Int32 → Int32 → Int32 → Option Int32) (i1 : Int32) (i2 : Int32) (i3 : Int32) (i4 : Int32) : Option Int32 :=
  xgd (xin i4 64) <|
  xl ((M 147 i4.toNatClampNeg) + 1) fun v7 =>
  f_X0_fewestFor_94 M k5 i1 v7 i3 i4
set_option maxHeartbeats 1000000 in
theorem x_X0_fewestFor_84 {ξ : xX} {M : xM} {k5 : Int32 → Int32 → Int32 → Option Int32} {i1 : Int32} {i2 : Int32} {i3 : Int32} {i4 : Int32} (hk5 : ∀ (j1 j2 j3 : Int32) (z : Int32), k5 j1 j2 j3 = some z → X ξ mX0_fewestFor 5 [.ref 144, .int j1, .int j2, .int j3] [] SH M 0 0 (xr (some (.int z)) SH M)) {z : Int32} (h : f_X0_fewestFor_84 M k5 i1 i2 i3 i4 = some z) : X ξ mX0_fewestFor 84 [.ref 144, .int i1, .int i2, .int i3, .int i4] [] SH M 0 0 (xr (some (.int z)) SH M) := by
  rw [f_X0_fewestFor_84] at h
  refine X_aload_n (x := 144) dX0_fewestFor_84 rfl ?_
  refine X_get (v := .ref 147) kF_RX0_18 sh_144 rfl rfl dX0_fewestFor_85 ?_
  refine X_iload (x := i4) dX0_fewestFor_88 rfl ?_
  refine X_iald sh_147 dX0_fewestFor_90 h (fun h => ?_)
  refine X_iconst 1 dX0_fewestFor_91 rfl ?_
  refine X_iadd dX0_fewestFor_92 ?_
  refine X_istoreL_n (fun v7 => [.ref 144, .int i1, .int v7, .int i3, .int i4]) dX0_fewestFor_93 (Nat.le_of_ble_eq_true rfl) (Nat.le_of_ble_eq_true rfl) (xcat1_of rfl) h (fun _ => rfl) (fun v7 h => ?_)
  exact x_X0_fewestFor_94 hk5 h
def f_X0_fewestFor_5 (M : xM) : Nat → Int32 → Int32 → Int32 → Option Int32
  | 0, _, _, _ => none
  | fu + 1, i1, i2, i3 =>
    if (M 144 4) ≤ i3 then (
      some i2)
    else (
      if 24 ≤ i3 then (
        some i2)
      else (
        xgd (xin i3 24) <|
        xl (i1 &&& ((M 146 i3.toNatClampNeg) ^^^ (-1))) fun v8 =>
        if v8 < 0 then (
          f_X0_fewestFor_94 M (f_X0_fewestFor_5 M fu) i1 i2 i3 v8)
        else (
          if i1 ≤ v8 then (
            f_X0_fewestFor_94 M (f_X0_fewestFor_5 M fu) i1 i2 i3 v8)
          else (
            if 64 ≤ v8 then (
              f_X0_fewestFor_94 M (f_X0_fewestFor_5 M fu) i1 i2 i3 v8)
            else (
              xgd (xin v8 64) <|
              if (M 147 v8.toNatClampNeg) < 0 then (
                f_X0_fewestFor_94 M (f_X0_fewestFor_5 M fu) i1 i2 i3 v8)
              else (
                if i2 = (-6) then (
                  f_X0_fewestFor_84 M (f_X0_fewestFor_5 M fu) i1 i2 i3 v8)
                else (
                  xgd (xin v8 64) <|
                  if i2 ≤ ((M 147 v8.toNatClampNeg) + 1) then (
                    f_X0_fewestFor_94 M (f_X0_fewestFor_5 M fu) i1 i2 i3 v8)
                  else (
                    f_X0_fewestFor_84 M (f_X0_fewestFor_5 M fu) i1 i2 i3 v8))))))))
set_option maxHeartbeats 1000000 in
theorem x_X0_fewestFor_5 {ξ : xX} {M : xM} : ∀ (fu : Nat) (i1 i2 i3 : Int32) (z : Int32), f_X0_fewestFor_5 M fu i1 i2 i3 = some z → X ξ mX0_fewestFor 5 [.ref 144, .int i1, .int i2, .int i3] [] SH M 0 0 (xr (some (.int z)) SH M) := by
  intro fu
  induction fu with
  | zero => intro i1 i2 i3 z h; rw [f_X0_fewestFor_5] at h; cases h
  | succ fu ih =>
    intro i1 i2 i3 z h
    rw [f_X0_fewestFor_5] at h
    refine X_iload_n (x := i3) dX0_fewestFor_5 rfl ?_
    refine X_aload_n (x := 144) dX0_fewestFor_6 rfl ?_
    refine X_get (v := .int (M 144 4)) kF_RX0_25 sh_144 rfl rfl dX0_fewestFor_7 ?_
    refine X_icmp_ge 100 dX0_fewestFor_10 (by decide) h (fun h => ?_) (fun h => ?_)
    · refine X_iload_n (x := i2) dX0_fewestFor_100 rfl ?_
      exact X_retP dX0_fewestFor_101 rfl (Nat.le_refl _) (Nat.le_refl _) h
    · refine X_iload_n (x := i3) dX0_fewestFor_13 rfl ?_
      refine X_aload_n (x := 144) dX0_fewestFor_14 rfl ?_
      refine X_get (v := .ref 146) kF_RX0_15 sh_144 rfl rfl dX0_fewestFor_15 ?_
      refine X_alen 24 sh_146 rfl dX0_fewestFor_18 ?_
      refine X_icmp_ge 100 dX0_fewestFor_19 (by decide) h (fun h => ?_) (fun h => ?_)
      · refine X_iload_n (x := i2) dX0_fewestFor_100 rfl ?_
        exact X_retP dX0_fewestFor_101 rfl (Nat.le_refl _) (Nat.le_refl _) h
      · refine X_iload_n (x := i1) dX0_fewestFor_22 rfl ?_
        refine X_aload_n (x := 144) dX0_fewestFor_23 rfl ?_
        refine X_get (v := .ref 146) kF_RX0_15 sh_144 rfl rfl dX0_fewestFor_24 ?_
        refine X_iload_n (x := i3) dX0_fewestFor_27 rfl ?_
        refine X_iald sh_146 dX0_fewestFor_28 h (fun h => ?_)
        refine X_iconst (-1) dX0_fewestFor_29 rfl ?_
        refine X_ixor dX0_fewestFor_30 ?_
        refine X_iand dX0_fewestFor_31 ?_
        refine X_istoreL (fun v8 => [.ref 144, .int i1, .int i2, .int i3, .int v8]) dX0_fewestFor_32 (Nat.le_of_ble_eq_true rfl) (Nat.le_of_ble_eq_true rfl) (xcat1_of rfl) h (fun _ => rfl) (fun v8 h => ?_)
        refine X_iload (x := v8) dX0_fewestFor_34 rfl ?_
        refine X_if_lt 94 dX0_fewestFor_36 (by decide) h (fun h => ?_) (fun h => ?_)
        · exact x_X0_fewestFor_94 ih h
        · refine X_iload (x := v8) dX0_fewestFor_39 rfl ?_
          refine X_iload_n (x := i1) dX0_fewestFor_41 rfl ?_
          refine X_icmp_ge 94 dX0_fewestFor_42 (by decide) h (fun h => ?_) (fun h => ?_)
          · exact x_X0_fewestFor_94 ih h
          · refine X_iload (x := v8) dX0_fewestFor_45 rfl ?_
            refine X_aload_n (x := 144) dX0_fewestFor_47 rfl ?_
            refine X_get (v := .ref 147) kF_RX0_18 sh_144 rfl rfl dX0_fewestFor_48 ?_
            refine X_alen 64 sh_147 rfl dX0_fewestFor_51 ?_
            refine X_icmp_ge 94 dX0_fewestFor_52 (by decide) h (fun h => ?_) (fun h => ?_)
            · exact x_X0_fewestFor_94 ih h
            · refine X_aload_n (x := 144) dX0_fewestFor_55 rfl ?_
              refine X_get (v := .ref 147) kF_RX0_18 sh_144 rfl rfl dX0_fewestFor_56 ?_
              refine X_iload (x := v8) dX0_fewestFor_59 rfl ?_
              refine X_iald sh_147 dX0_fewestFor_61 h (fun h => ?_)
              refine X_if_lt 94 dX0_fewestFor_62 (by decide) h (fun h => ?_) (fun h => ?_)
              · exact x_X0_fewestFor_94 ih h
              · refine X_iload_n (x := i2) dX0_fewestFor_65 rfl ?_
                refine X_bipush (-6) dX0_fewestFor_66 rfl ?_
                refine X_icmp_eq 84 dX0_fewestFor_68 (by decide) h (fun h => ?_) (fun h => ?_)
                · exact x_X0_fewestFor_84 ih h
                · refine X_aload_n (x := 144) dX0_fewestFor_71 rfl ?_
                  refine X_get (v := .ref 147) kF_RX0_18 sh_144 rfl rfl dX0_fewestFor_72 ?_
                  refine X_iload (x := v8) dX0_fewestFor_75 rfl ?_
                  refine X_iald sh_147 dX0_fewestFor_77 h (fun h => ?_)
                  refine X_iconst 1 dX0_fewestFor_78 rfl ?_
                  refine X_iadd dX0_fewestFor_79 ?_
                  refine X_iload_n (x := i2) dX0_fewestFor_80 rfl ?_
                  refine X_icmp_ge 94 dX0_fewestFor_81 (by decide) h (fun h => ?_) (fun h => ?_)
                  · exact x_X0_fewestFor_94 ih h
                  · exact x_X0_fewestFor_84 ih h
def f_X0_fewestFor (M : xM) (a1 : Int32) : Option Int32 :=
  xl (-6 : Int32) fun v9 =>
  xl (0 : Int32) fun v10 =>
  f_X0_fewestFor_5 M xFU a1 v9 v10
set_option maxHeartbeats 1000000 in
theorem x_X0_fewestFor {ξ : xX} {M : xM} {a1 : Int32} {z : Int32} (h : f_X0_fewestFor M a1 = some z) : X ξ mX0_fewestFor 0 [.ref 144, .int a1] [] SH M 0 0 (xr (some (.int z)) SH M) := by
  rw [f_X0_fewestFor] at h
  refine X_bipush (-6) dX0_fewestFor_0 rfl ?_
  refine X_istoreL_n (fun v9 => [.ref 144, .int a1, .int v9]) dX0_fewestFor_2 (Nat.le_of_ble_eq_true rfl) (Nat.le_of_ble_eq_true rfl) (xcat1_of rfl) h (fun _ => rfl) (fun v9 h => ?_)
  refine X_iconst 0 dX0_fewestFor_3 rfl ?_
  refine X_istoreL_n (fun v10 => [.ref 144, .int a1, .int v9, .int v10]) dX0_fewestFor_4 (Nat.le_of_ble_eq_true rfl) (Nat.le_of_ble_eq_true rfl) (xcat1_of rfl) h (fun _ => rfl) (fun v10 h => ?_)
  exact x_X0_fewestFor_5 _ _ _ _ _ h
def f_X0_findFewest_40 (k17 : xM → Int32 → Int32 → Option (Int32 × xM)) (M : xM) (i1 : Int32) (i2 : Int32) (s1 : Int32) (s2 : Int32) : Option (Int32 × xM) :=
  xgd (xin s1 64) <| xl (xw M 147 s1.toNatClampNeg s2) fun M4 =>
  xl (i2 + 1) fun v5 =>
  k17 M4 i1 v5
set_option maxHeartbeats 1000000 in
theorem x_X0_findFewest_40 {ξ : xX} {M : xM} {k17 : xM → Int32 → Int32 → Option (Int32 × xM)} {i1 : Int32} {i2 : Int32} {s1 : Int32} {s2 : Int32} (hk17 : ∀ (M : xM) (j1 j2 : Int32) (z : (Int32 × xM)), k17 M j1 j2 = some z → X ξ mX0_findFewest 17 [.ref 144, .int j1, .int j2] [] SH M 0 0 (xr (some (.int z.1)) SH z.2)) {z : (Int32 × xM)} (h : f_X0_findFewest_40 k17 M i1 i2 s1 s2 = some z) : X ξ mX0_findFewest 40 [.ref 144, .int i1, .int i2] [.int s2, .int s1, .ref 147] SH M 0 0 (xr (some (.int z.1)) SH z.2) := by
  rw [f_X0_findFewest_40] at h
  refine X_iast sh_147 dX0_findFewest_40 h (fun M4 h => ?_)
  refine X_iincL (x := i2) 1 (fun v5 => [.ref 144, .int i1, .int v5]) dX0_findFewest_41 rfl rfl (Nat.le_of_ble_eq_true rfl) (xcat1_of rfl) h (fun _ => rfl) (fun v5 h => ?_)
  refine X_goto 17 dX0_findFewest_44 (by decide) ?_
  exact hk17 _ _ _ _ h
def f_X0_findFewest_17 : Nat → xM → Int32 → Int32 → Option (Int32 × xM)
  | 0, _, _, _ => none
  | fu + 1, M, i1, i2 =>
    if i1 ≤ i2 then (
      if i1 ≤ 0 then (
        some ((-6), M))
      else (
        xgd (xin (i1 - 1) 64) <|
        some ((M 147 (i1 - 1).toNatClampNeg), M)))
    else (
      if i2 = 0 then (
        f_X0_findFewest_40 (f_X0_findFewest_17 fu) M i1 i2 i2 0)
      else (
        xb (f_X0_fewestFor M i2) fun v6 =>
        f_X0_findFewest_40 (f_X0_findFewest_17 fu) M i1 i2 i2 v6))
set_option maxHeartbeats 1000000 in
theorem x_X0_findFewest_17 {ξ : xX} : ∀ (fu : Nat) (M : xM) (i1 i2 : Int32) (z : (Int32 × xM)), f_X0_findFewest_17 fu M i1 i2 = some z → X ξ mX0_findFewest 17 [.ref 144, .int i1, .int i2] [] SH M 0 0 (xr (some (.int z.1)) SH z.2) := by
  intro fu
  induction fu with
  | zero => intro M i1 i2 z h; rw [f_X0_findFewest_17] at h; cases h
  | succ fu ih =>
    intro M i1 i2 z h
    rw [f_X0_findFewest_17] at h
    refine X_iload_n (x := i2) dX0_findFewest_17 rfl ?_
    refine X_iload_n (x := i1) dX0_findFewest_18 rfl ?_
    refine X_icmp_ge 47 dX0_findFewest_19 (by decide) h (fun h => ?_) (fun h => ?_)
    · refine X_iload_n (x := i1) dX0_findFewest_47 rfl ?_
      refine X_if_le 62 dX0_findFewest_48 (by decide) h (fun h => ?_) (fun h => ?_)
      · refine X_bipush (-6) dX0_findFewest_62 rfl ?_
        exact X_retI dX0_findFewest_64 rfl (Nat.le_refl _) (Nat.le_refl _) h
      · refine X_aload_n (x := 144) dX0_findFewest_51 rfl ?_
        refine X_get (v := .ref 147) kF_RX0_18 sh_144 rfl rfl dX0_findFewest_52 ?_
        refine X_iload_n (x := i1) dX0_findFewest_55 rfl ?_
        refine X_iconst 1 dX0_findFewest_56 rfl ?_
        refine X_isub dX0_findFewest_57 ?_
        refine X_iald sh_147 dX0_findFewest_58 h (fun h => ?_)
        refine X_goto 64 dX0_findFewest_59 (by decide) ?_
        exact X_retI dX0_findFewest_64 rfl (Nat.le_refl _) (Nat.le_refl _) h
    · refine X_aload_n (x := 144) dX0_findFewest_22 rfl ?_
      refine X_get (v := .ref 147) kF_RX0_18 sh_144 rfl rfl dX0_findFewest_23 ?_
      refine X_iload_n (x := i2) dX0_findFewest_26 rfl ?_
      refine X_iload_n (x := i2) dX0_findFewest_27 rfl ?_
      refine X_if_ne 35 dX0_findFewest_28 (by decide) h (fun h => ?_) (fun h => ?_)
      · refine X_aload_n (x := 144) dX0_findFewest_35 rfl ?_
        refine X_iload_n (x := i2) dX0_findFewest_36 rfl ?_
        refine X_vP (μ' := mX0_fewestFor) [.int i2] [.int i2, .ref 147] kL_RX0_34 kM_X0_fewestFor rv_144 rfl rfl rfl dX0_findFewest_37 h (fun _ hv => x_X0_fewestFor hv) (fun v6 h => ?_)
        exact x_X0_findFewest_40 ih h
      · refine X_iconst 0 dX0_findFewest_31 rfl ?_
        refine X_goto 40 dX0_findFewest_32 (by decide) ?_
        exact x_X0_findFewest_40 ih h
def f_X0_findFewest (M : xM) : Option (Int32 × xM) :=
  xl (xmn ((1 : Int32) <<< (((M 144 3) : Int32) &&& 31)) 64) fun v7 =>
  xl (0 : Int32) fun v8 =>
  f_X0_findFewest_17 xFU M v7 v8
set_option maxHeartbeats 1000000 in
theorem x_X0_findFewest {ξ : xX} {M : xM} {z : (Int32 × xM)} (h : f_X0_findFewest M = some z) : X ξ mX0_findFewest 0 [.ref 144] [] SH M 0 0 (xr (some (.int z.1)) SH z.2) := by
  rw [f_X0_findFewest] at h
  refine X_iconst 1 dX0_findFewest_0 rfl ?_
  refine X_aload_n (x := 144) dX0_findFewest_1 rfl ?_
  refine X_get (v := .int (M 144 3)) kF_RX0_21 sh_144 rfl rfl dX0_findFewest_2 ?_
  refine X_ishl dX0_findFewest_5 ?_
  refine X_aload_n (x := 144) dX0_findFewest_6 rfl ?_
  refine X_get (v := .ref 147) kF_RX0_18 sh_144 rfl rfl dX0_findFewest_7 ?_
  refine X_alen 64 sh_147 rfl dX0_findFewest_10 ?_
  refine X_min kJ_RX0_28 (Nat.le_of_ble_eq_true rfl) (Nat.le_of_ble_eq_true rfl) (Nat.le_refl _) (Nat.le_refl _) dX0_findFewest_11 ?_
  refine X_istoreL_n (fun v7 => [.ref 144, .int v7]) dX0_findFewest_14 (Nat.le_of_ble_eq_true rfl) (Nat.le_of_ble_eq_true rfl) (xcat1_of rfl) h (fun _ => rfl) (fun v7 h => ?_)
  refine X_iconst 0 dX0_findFewest_15 rfl ?_
  refine X_istoreL_n (fun v8 => [.ref 144, .int v7, .int v8]) dX0_findFewest_16 (Nat.le_of_ble_eq_true rfl) (Nat.le_of_ble_eq_true rfl) (xcat1_of rfl) h (fun _ => rfl) (fun v8 h => ?_)
  exact x_X0_findFewest_17 _ _ _ _ _ h
