def f_X2_speedOf (a1 a2 : Int32) : Option Int32 :=
  if a1 < 0 then (
    some 0)
  else (
    if 2 < a1 then (
      some 0)
    else (
      if a2 < 0 then (
        some 0)
      else (
        if a2 < 3 then (
          xl ((a1 * 3) + a2) fun v2 =>
          if v2 < 0 then (
            some 0)
          else (
            if 9 ≤ v2 then (
              some 0)
            else (
              xgd (xin v2 9) <|
              some (xSpI v2.toNatClampNeg))))
        else (
          some 0))))
set_option maxHeartbeats 1000000 in
theorem x_X2_speedOf {ξ : xX} {M : xM} {a1 a2 : Int32} {z : Int32} (h : f_X2_speedOf a1 a2 = some z) : X ξ mX2_speedOf 0 [.int a1, .int a2] [] SH M 0 0 (xr (some (.int z)) SH M) := by
  rw [f_X2_speedOf] at h
  refine X_iload_n (x := a1) dX2_speedOf_0 rfl ?_
  refine X_if_lt 18 dX2_speedOf_1 (by decide) h (fun h => ?_) (fun h => ?_)
  · refine X_iconst 0 dX2_speedOf_18 rfl ?_
    exact X_retP dX2_speedOf_19 rfl (Nat.le_refl _) (Nat.le_refl _) h
  · refine X_iload_n (x := a1) dX2_speedOf_4 rfl ?_
    refine X_iconst 2 dX2_speedOf_5 rfl ?_
    refine X_icmp_gt 18 dX2_speedOf_6 (by decide) h (fun h => ?_) (fun h => ?_)
    · refine X_iconst 0 dX2_speedOf_18 rfl ?_
      exact X_retP dX2_speedOf_19 rfl (Nat.le_refl _) (Nat.le_refl _) h
    · refine X_iload_n (x := a2) dX2_speedOf_9 rfl ?_
      refine X_if_lt 18 dX2_speedOf_10 (by decide) h (fun h => ?_) (fun h => ?_)
      · refine X_iconst 0 dX2_speedOf_18 rfl ?_
        exact X_retP dX2_speedOf_19 rfl (Nat.le_refl _) (Nat.le_refl _) h
      · refine X_iload_n (x := a2) dX2_speedOf_13 rfl ?_
        refine X_iconst 3 dX2_speedOf_14 rfl ?_
        refine X_icmp_lt 20 dX2_speedOf_15 (by decide) h (fun h => ?_) (fun h => ?_)
        · refine X_iload_n (x := a1) dX2_speedOf_20 rfl ?_
          refine X_iconst 3 dX2_speedOf_21 rfl ?_
          refine X_imul dX2_speedOf_22 ?_
          refine X_iload_n (x := a2) dX2_speedOf_23 rfl ?_
          refine X_iadd dX2_speedOf_24 ?_
          refine X_istoreL_n (fun v2 => [.int a1, .int a2, .int v2]) dX2_speedOf_25 (Nat.le_of_ble_eq_true rfl) (Nat.le_of_ble_eq_true rfl) (xcat1_of rfl) h (fun _ => rfl) (fun v2 h => ?_)
          refine X_iload_n (x := v2) dX2_speedOf_26 rfl ?_
          refine X_if_lt 46 dX2_speedOf_27 (by decide) h (fun h => ?_) (fun h => ?_)
          · refine X_iconst 0 dX2_speedOf_46 rfl ?_
            exact X_retP dX2_speedOf_47 rfl (Nat.le_refl _) (Nat.le_refl _) h
          · refine X_iload_n (x := v2) dX2_speedOf_30 rfl ?_
            refine X_gets1 kG_RX2_9 dX2_speedOf_31 ?_
            refine X_alen1 dX2_speedOf_34 ?_
            refine X_icmp_ge 46 dX2_speedOf_35 (by decide) h (fun h => ?_) (fun h => ?_)
            · refine X_iconst 0 dX2_speedOf_46 rfl ?_
              exact X_retP dX2_speedOf_47 rfl (Nat.le_refl _) (Nat.le_refl _) h
            · refine X_gets1 kG_RX2_9 dX2_speedOf_38 ?_
              refine X_iload_n (x := v2) dX2_speedOf_41 rfl ?_
              refine X_iald1 dX2_speedOf_42 h (fun h => ?_)
              refine X_goto 47 dX2_speedOf_43 (by decide) ?_
              exact X_retP dX2_speedOf_47 rfl (Nat.le_refl _) (Nat.le_refl _) h
        · refine X_iconst 0 dX2_speedOf_18 rfl ?_
          exact X_retP dX2_speedOf_19 rfl (Nat.le_refl _) (Nat.le_refl _) h
def f_X2_numberOfSpeed_22 (k2 : Int32 → Int32 → Int32 → Option Int32) (i0 : Int32) (i1 : Int32) (i2 : Int32) : Option Int32 :=
  xl (i2 + 1) fun v3 =>
  k2 i0 i1 v3
set_option maxHeartbeats 1000000 in
theorem x_X2_numberOfSpeed_22 {ξ : xX} {M : xM} {k2 : Int32 → Int32 → Int32 → Option Int32} {i0 : Int32} {i1 : Int32} {i2 : Int32} (hk2 : ∀ (j0 j1 j2 : Int32) (z : Int32), k2 j0 j1 j2 = some z → X ξ mX2_numberOfSpeed 2 [.int j0, .int j1, .int j2] [] SH M 0 0 (xr (some (.int z)) SH M)) {z : Int32} (h : f_X2_numberOfSpeed_22 k2 i0 i1 i2 = some z) : X ξ mX2_numberOfSpeed 22 [.int i0, .int i1, .int i2] [] SH M 0 0 (xr (some (.int z)) SH M) := by
  rw [f_X2_numberOfSpeed_22] at h
  refine X_iincL (x := i2) 1 (fun v3 => [.int i0, .int i1, .int v3]) dX2_numberOfSpeed_22 rfl rfl (Nat.le_of_ble_eq_true rfl) (xcat1_of rfl) h (fun _ => rfl) (fun v3 h => ?_)
  refine X_goto 2 dX2_numberOfSpeed_25 (by decide) ?_
  exact hk2 _ _ _ _ h
def f_X2_numberOfSpeed_2 : Nat → Int32 → Int32 → Int32 → Option Int32
  | 0, _, _, _ => none
  | fu + 1, i0, i1, i2 =>
    if 3 ≤ i2 then (
      some (-1))
    else (
      if i1 ≤ 0 then (
        f_X2_numberOfSpeed_22 (f_X2_numberOfSpeed_2 fu) i0 i1 i2)
      else (
        xb (f_X2_speedOf i0 i2) fun v4 =>
        if v4 = i1 then (
          some i2)
        else (
          f_X2_numberOfSpeed_22 (f_X2_numberOfSpeed_2 fu) i0 i1 i2)))
set_option maxHeartbeats 1000000 in
theorem x_X2_numberOfSpeed_2 {ξ : xX} {M : xM} : ∀ (fu : Nat) (i0 i1 i2 : Int32) (z : Int32), f_X2_numberOfSpeed_2 fu i0 i1 i2 = some z → X ξ mX2_numberOfSpeed 2 [.int i0, .int i1, .int i2] [] SH M 0 0 (xr (some (.int z)) SH M) := by
  intro fu
  induction fu with
  | zero => intro i0 i1 i2 z h; rw [f_X2_numberOfSpeed_2] at h; cases h
  | succ fu ih =>
    intro i0 i1 i2 z h
    rw [f_X2_numberOfSpeed_2] at h
    refine X_iload_n (x := i2) dX2_numberOfSpeed_2 rfl ?_
    refine X_iconst 3 dX2_numberOfSpeed_3 rfl ?_
    refine X_icmp_ge 28 dX2_numberOfSpeed_4 (by decide) h (fun h => ?_) (fun h => ?_)
    · refine X_iconst (-1) dX2_numberOfSpeed_28 rfl ?_
      exact X_retP dX2_numberOfSpeed_29 rfl (Nat.le_refl _) (Nat.le_refl _) h
    · refine X_iload_n (x := i1) dX2_numberOfSpeed_7 rfl ?_
      refine X_if_le 22 dX2_numberOfSpeed_8 (by decide) h (fun h => ?_) (fun h => ?_)
      · exact x_X2_numberOfSpeed_22 ih h
      · refine X_iload_n (x := i0) dX2_numberOfSpeed_11 rfl ?_
        refine X_iload_n (x := i2) dX2_numberOfSpeed_12 rfl ?_
        refine X_sP (μ' := mX2_speedOf) [.int i0, .int i2] [] kL_RX2_15 kM_X2_speedOf rfl rfl rfl dX2_numberOfSpeed_13 h (fun _ hv => x_X2_speedOf hv) (fun v4 h => ?_)
        refine X_iload_n (x := i1) dX2_numberOfSpeed_16 rfl ?_
        refine X_icmp_ne 22 dX2_numberOfSpeed_17 (by decide) h (fun h => ?_) (fun h => ?_)
        · exact x_X2_numberOfSpeed_22 ih h
        · refine X_iload_n (x := i2) dX2_numberOfSpeed_20 rfl ?_
          exact X_retP dX2_numberOfSpeed_21 rfl (Nat.le_refl _) (Nat.le_refl _) h
def f_X2_numberOfSpeed (a1 a2 : Int32) : Option Int32 :=
  xl (0 : Int32) fun v5 =>
  f_X2_numberOfSpeed_2 xFU a1 a2 v5
set_option maxHeartbeats 1000000 in
theorem x_X2_numberOfSpeed {ξ : xX} {M : xM} {a1 a2 : Int32} {z : Int32} (h : f_X2_numberOfSpeed a1 a2 = some z) : X ξ mX2_numberOfSpeed 0 [.int a1, .int a2] [] SH M 0 0 (xr (some (.int z)) SH M) := by
  rw [f_X2_numberOfSpeed] at h
  refine X_iconst 0 dX2_numberOfSpeed_0 rfl ?_
  refine X_istoreL_n (fun v5 => [.int a1, .int a2, .int v5]) dX2_numberOfSpeed_1 (Nat.le_of_ble_eq_true rfl) (Nat.le_of_ble_eq_true rfl) (xcat1_of rfl) h (fun _ => rfl) (fun v5 h => ?_)
  exact x_X2_numberOfSpeed_2 _ _ _ _ _ h
def f_X2_allSpeeds (a1 : Int32) : Option Int32 :=
  if a1 = 2 then (
    some 1)
  else (
    some 7)
set_option maxHeartbeats 1000000 in
theorem x_X2_allSpeeds {ξ : xX} {M : xM} {a1 : Int32} {z : Int32} (h : f_X2_allSpeeds a1 = some z) : X ξ mX2_allSpeeds 0 [.int a1] [] SH M 0 0 (xr (some (.int z)) SH M) := by
  rw [f_X2_allSpeeds] at h
  refine X_iload_n (x := a1) dX2_allSpeeds_0 rfl ?_
  refine X_iconst 2 dX2_allSpeeds_1 rfl ?_
  refine X_icmp_ne 9 dX2_allSpeeds_2 (by decide) h (fun h => ?_) (fun h => ?_)
  · refine X_bipush 7 dX2_allSpeeds_9 rfl ?_
    exact X_retP dX2_allSpeeds_11 rfl (Nat.le_refl _) (Nat.le_refl _) h
  · refine X_iconst 1 dX2_allSpeeds_5 rfl ?_
    refine X_goto 11 dX2_allSpeeds_6 (by decide) ?_
    exact X_retP dX2_allSpeeds_11 rfl (Nat.le_refl _) (Nat.le_refl _) h
def f_X2_hasLayout_38 (i0 : Int32) (i1 : Int32) : Option Int32 :=
  some 1
set_option maxHeartbeats 1000000 in
theorem x_X2_hasLayout_38 {ξ : xX} {M : xM} {i0 : Int32} {i1 : Int32} {z : Int32} (h : f_X2_hasLayout_38 i0 i1 = some z) : X ξ mX2_hasLayout 38 [.int i0, .int i1] [] SH M 0 0 (xr (some (.int z)) SH M) := by
  rw [f_X2_hasLayout_38] at h
  refine X_iconst 1 dX2_hasLayout_38 rfl ?_
  refine X_goto 43 dX2_hasLayout_39 (by decide) ?_
  exact X_retLP (by decide) dX2_hasLayout_43 rfl (Nat.le_refl _) (Nat.le_refl _) h
def f_X2_hasLayout_58 (i0 : Int32) (i1 : Int32) : Option Int32 :=
  some 1
set_option maxHeartbeats 1000000 in
theorem x_X2_hasLayout_58 {ξ : xX} {M : xM} {i0 : Int32} {i1 : Int32} {z : Int32} (h : f_X2_hasLayout_58 i0 i1 = some z) : X ξ mX2_hasLayout 58 [.int i0, .int i1] [] SH M 0 0 (xr (some (.int z)) SH M) := by
  rw [f_X2_hasLayout_58] at h
  refine X_iconst 1 dX2_hasLayout_58 rfl ?_
  refine X_goto 63 dX2_hasLayout_59 (by decide) ?_
  exact X_retLP (by decide) dX2_hasLayout_63 rfl (Nat.le_refl _) (Nat.le_refl _) h
def f_X2_hasLayout (a1 a2 : Int32) : Option Int32 :=
  if a1 = 0 then (
    if a2 = 1 then (
      f_X2_hasLayout_38 a1 a2)
    else (
      if a2 = 3 then (
        f_X2_hasLayout_38 a1 a2)
      else (
        some 0)))
  else (
    if a1 = 1 then (
      if a2 = 0 then (
        f_X2_hasLayout_58 a1 a2)
      else (
        if a2 = 1 then (
          f_X2_hasLayout_58 a1 a2)
        else (
          if a2 = 2 then (
            f_X2_hasLayout_58 a1 a2)
          else (
            some 0))))
    else (
      if a1 = 2 then (
        if a2 = 1 then (
          f_X2_hasLayout_38 a1 a2)
        else (
          if a2 = 3 then (
            f_X2_hasLayout_38 a1 a2)
          else (
            some 0)))
      else (
        some 0)))
set_option maxHeartbeats 1000000 in
theorem x_X2_hasLayout {ξ : xX} {M : xM} {a1 a2 : Int32} {z : Int32} (h : f_X2_hasLayout a1 a2 = some z) : X ξ mX2_hasLayout 0 [.int a1, .int a2] [] SH M 0 0 (xr (some (.int z)) SH M) := by
  rw [f_X2_hasLayout] at h
  refine X_iload_n (x := a1) dX2_hasLayout_0 rfl ?_
  by_cases e0 : a1 = 0
  · rw [if_pos e0] at h
    refine X_tsIn 0 28 e0 dX2_hasLayout_1 (by decide) (by decide) rfl (by decide) ?_
    refine X_iload_n (x := a2) dX2_hasLayout_28 rfl ?_
    refine X_iconst 1 dX2_hasLayout_29 rfl ?_
    refine X_icmp_eq 38 dX2_hasLayout_30 (by decide) h (fun h => ?_) (fun h => ?_)
    · exact x_X2_hasLayout_38 h
    · refine X_iload_n (x := a2) dX2_hasLayout_33 rfl ?_
      refine X_iconst 3 dX2_hasLayout_34 rfl ?_
      refine X_icmp_ne 42 dX2_hasLayout_35 (by decide) h (fun h => ?_) (fun h => ?_)
      · refine X_iconst 0 dX2_hasLayout_42 rfl ?_
        exact X_retLP (by decide) dX2_hasLayout_43 rfl (Nat.le_refl _) (Nat.le_refl _) h
      · exact x_X2_hasLayout_38 h
  rw [if_neg e0] at h
  by_cases e1 : a1 = 1
  · rw [if_pos e1] at h
    refine X_tsIn 1 44 e1 dX2_hasLayout_1 (by decide) (by decide) rfl (by decide) ?_
    refine X_iload_n (x := a2) dX2_hasLayout_44 rfl ?_
    refine X_if_eq 58 dX2_hasLayout_45 (by decide) h (fun h => ?_) (fun h => ?_)
    · exact x_X2_hasLayout_58 h
    · refine X_iload_n (x := a2) dX2_hasLayout_48 rfl ?_
      refine X_iconst 1 dX2_hasLayout_49 rfl ?_
      refine X_icmp_eq 58 dX2_hasLayout_50 (by decide) h (fun h => ?_) (fun h => ?_)
      · exact x_X2_hasLayout_58 h
      · refine X_iload_n (x := a2) dX2_hasLayout_53 rfl ?_
        refine X_iconst 2 dX2_hasLayout_54 rfl ?_
        refine X_icmp_ne 62 dX2_hasLayout_55 (by decide) h (fun h => ?_) (fun h => ?_)
        · refine X_iconst 0 dX2_hasLayout_62 rfl ?_
          exact X_retLP (by decide) dX2_hasLayout_63 rfl (Nat.le_refl _) (Nat.le_refl _) h
        · exact x_X2_hasLayout_58 h
  rw [if_neg e1] at h
  by_cases e2 : a1 = 2
  · rw [if_pos e2] at h
    refine X_tsIn 2 28 e2 dX2_hasLayout_1 (by decide) (by decide) rfl (by decide) ?_
    refine X_iload_n (x := a2) dX2_hasLayout_28 rfl ?_
    refine X_iconst 1 dX2_hasLayout_29 rfl ?_
    refine X_icmp_eq 38 dX2_hasLayout_30 (by decide) h (fun h => ?_) (fun h => ?_)
    · exact x_X2_hasLayout_38 h
    · refine X_iload_n (x := a2) dX2_hasLayout_33 rfl ?_
      refine X_iconst 3 dX2_hasLayout_34 rfl ?_
      refine X_icmp_ne 42 dX2_hasLayout_35 (by decide) h (fun h => ?_) (fun h => ?_)
      · refine X_iconst 0 dX2_hasLayout_42 rfl ?_
        exact X_retLP (by decide) dX2_hasLayout_43 rfl (Nat.le_refl _) (Nat.le_refl _) h
      · exact x_X2_hasLayout_38 h
  rw [if_neg e2] at h
  refine X_tsOut 64 dX2_hasLayout_1 (xsw_out (lo := 0) 3 (lt_s (lt_s (lt_s lt_0 (xne (c := 0) rfl e0)) (xne (c := 1) rfl e1)) (xne (c := 2) rfl e2))) (by decide) ?_
  refine X_iconst 0 dX2_hasLayout_64 rfl ?_
  exact X_retLP (by decide) dX2_hasLayout_65 rfl (Nat.le_refl _) (Nat.le_refl _) h
def f_X3_countTracks (a1 : Int32) : Option Int32 :=
  if a1 = 0 then (
    some 1)
  else (
    if a1 = 1 then (
      some 2)
    else (
      if a1 = 2 then (
        some 4)
      else (
        if a1 = 3 then (
          some 4)
        else (
          some 0))))
set_option maxHeartbeats 1000000 in
theorem x_X3_countTracks {ξ : xX} {M : xM} {a1 : Int32} {z : Int32} (h : f_X3_countTracks a1 = some z) : X ξ mX3_countTracks 0 [.int a1] [] SH M 0 0 (xr (some (.int z)) SH M) := by
  rw [f_X3_countTracks] at h
  refine X_iload_n (x := a1) dX3_countTracks_0 rfl ?_
  by_cases e0 : a1 = 0
  · rw [if_pos e0] at h
    refine X_tsIn 0 32 e0 dX3_countTracks_1 (by decide) (by decide) rfl (by decide) ?_
    refine X_iconst 1 dX3_countTracks_32 rfl ?_
    exact X_retP dX3_countTracks_33 rfl (Nat.le_refl _) (Nat.le_refl _) h
  rw [if_neg e0] at h
  by_cases e1 : a1 = 1
  · rw [if_pos e1] at h
    refine X_tsIn 1 34 e1 dX3_countTracks_1 (by decide) (by decide) rfl (by decide) ?_
    refine X_iconst 2 dX3_countTracks_34 rfl ?_
    exact X_retP dX3_countTracks_35 rfl (Nat.le_refl _) (Nat.le_refl _) h
  rw [if_neg e1] at h
  by_cases e2 : a1 = 2
  · rw [if_pos e2] at h
    refine X_tsIn 2 36 e2 dX3_countTracks_1 (by decide) (by decide) rfl (by decide) ?_
    refine X_iconst 4 dX3_countTracks_36 rfl ?_
    exact X_retP dX3_countTracks_37 rfl (Nat.le_refl _) (Nat.le_refl _) h
  rw [if_neg e2] at h
  by_cases e3 : a1 = 3
  · rw [if_pos e3] at h
    refine X_tsIn 3 36 e3 dX3_countTracks_1 (by decide) (by decide) rfl (by decide) ?_
    refine X_iconst 4 dX3_countTracks_36 rfl ?_
    exact X_retP dX3_countTracks_37 rfl (Nat.le_refl _) (Nat.le_refl _) h
  rw [if_neg e3] at h
  refine X_tsOut 38 dX3_countTracks_1 (xsw_out (lo := 0) 4 (lt_s (lt_s (lt_s (lt_s lt_0 (xne (c := 0) rfl e0)) (xne (c := 1) rfl e1)) (xne (c := 2) rfl e2)) (xne (c := 3) rfl e3))) (by decide) ?_
  refine X_iconst 0 dX3_countTracks_38 rfl ?_
  exact X_retP dX3_countTracks_39 rfl (Nat.le_refl _) (Nat.le_refl _) h
def f_X3_stripsOfTrack (a1 a2 : Int32) : Option Int32 :=
  if a1 < 0 then (
    some 0)
  else (
    if 3 < a1 then (
      some 0)
    else (
      if a2 < 0 then (
        some 0)
      else (
        if a2 < 4 then (
          xl ((a1 * 4) + a2) fun v2 =>
          if v2 < 0 then (
            some 0)
          else (
            if 16 ≤ v2 then (
              some 0)
            else (
              xgd (xin v2 16) <|
              some (xStI v2.toNatClampNeg))))
        else (
          some 0))))
set_option maxHeartbeats 1000000 in
theorem x_X3_stripsOfTrack {ξ : xX} {M : xM} {a1 a2 : Int32} {z : Int32} (h : f_X3_stripsOfTrack a1 a2 = some z) : X ξ mX3_stripsOfTrack 0 [.int a1, .int a2] [] SH M 0 0 (xr (some (.int z)) SH M) := by
  rw [f_X3_stripsOfTrack] at h
  refine X_iload_n (x := a1) dX3_stripsOfTrack_0 rfl ?_
  refine X_if_lt 18 dX3_stripsOfTrack_1 (by decide) h (fun h => ?_) (fun h => ?_)
  · refine X_iconst 0 dX3_stripsOfTrack_18 rfl ?_
    exact X_retP dX3_stripsOfTrack_19 rfl (Nat.le_refl _) (Nat.le_refl _) h
  · refine X_iload_n (x := a1) dX3_stripsOfTrack_4 rfl ?_
    refine X_iconst 3 dX3_stripsOfTrack_5 rfl ?_
    refine X_icmp_gt 18 dX3_stripsOfTrack_6 (by decide) h (fun h => ?_) (fun h => ?_)
    · refine X_iconst 0 dX3_stripsOfTrack_18 rfl ?_
      exact X_retP dX3_stripsOfTrack_19 rfl (Nat.le_refl _) (Nat.le_refl _) h
    · refine X_iload_n (x := a2) dX3_stripsOfTrack_9 rfl ?_
      refine X_if_lt 18 dX3_stripsOfTrack_10 (by decide) h (fun h => ?_) (fun h => ?_)
      · refine X_iconst 0 dX3_stripsOfTrack_18 rfl ?_
        exact X_retP dX3_stripsOfTrack_19 rfl (Nat.le_refl _) (Nat.le_refl _) h
      · refine X_iload_n (x := a2) dX3_stripsOfTrack_13 rfl ?_
        refine X_iconst 4 dX3_stripsOfTrack_14 rfl ?_
        refine X_icmp_lt 20 dX3_stripsOfTrack_15 (by decide) h (fun h => ?_) (fun h => ?_)
        · refine X_iload_n (x := a1) dX3_stripsOfTrack_20 rfl ?_
          refine X_iconst 4 dX3_stripsOfTrack_21 rfl ?_
          refine X_imul dX3_stripsOfTrack_22 ?_
          refine X_iload_n (x := a2) dX3_stripsOfTrack_23 rfl ?_
          refine X_iadd dX3_stripsOfTrack_24 ?_
          refine X_istoreL_n (fun v2 => [.int a1, .int a2, .int v2]) dX3_stripsOfTrack_25 (Nat.le_of_ble_eq_true rfl) (Nat.le_of_ble_eq_true rfl) (xcat1_of rfl) h (fun _ => rfl) (fun v2 h => ?_)
          refine X_iload_n (x := v2) dX3_stripsOfTrack_26 rfl ?_
          refine X_if_lt 46 dX3_stripsOfTrack_27 (by decide) h (fun h => ?_) (fun h => ?_)
          · refine X_iconst 0 dX3_stripsOfTrack_46 rfl ?_
            exact X_retP dX3_stripsOfTrack_47 rfl (Nat.le_refl _) (Nat.le_refl _) h
          · refine X_iload_n (x := v2) dX3_stripsOfTrack_30 rfl ?_
            refine X_gets2 kG_RX3_9 dX3_stripsOfTrack_31 ?_
            refine X_alen2 dX3_stripsOfTrack_34 ?_
            refine X_icmp_ge 46 dX3_stripsOfTrack_35 (by decide) h (fun h => ?_) (fun h => ?_)
            · refine X_iconst 0 dX3_stripsOfTrack_46 rfl ?_
              exact X_retP dX3_stripsOfTrack_47 rfl (Nat.le_refl _) (Nat.le_refl _) h
            · refine X_gets2 kG_RX3_9 dX3_stripsOfTrack_38 ?_
              refine X_iload_n (x := v2) dX3_stripsOfTrack_41 rfl ?_
              refine X_iald2 dX3_stripsOfTrack_42 h (fun h => ?_)
              refine X_goto 47 dX3_stripsOfTrack_43 (by decide) ?_
              exact X_retP dX3_stripsOfTrack_47 rfl (Nat.le_refl _) (Nat.le_refl _) h
        · refine X_iconst 0 dX3_stripsOfTrack_18 rfl ?_
          exact X_retP dX3_stripsOfTrack_19 rfl (Nat.le_refl _) (Nat.le_refl _) h
def f_X3_tracksOfSide (a1 a2 : Int32) : Option Int32 :=
  if a1 = 0 then (
    if a2 = 0 then (
      some 1)
    else (
      some 0))
  else (
    if a1 = 1 then (
      if a2 = 0 then (
        some 1)
      else (
        some 2))
    else (
      if a1 = 2 then (
        if a2 = 0 then (
          some 5)
        else (
          some 10))
      else (
        if a1 = 3 then (
          if a2 = 0 then (
            some 3)
          else (
            some 12))
        else (
          some 0))))
set_option maxHeartbeats 1000000 in
theorem x_X3_tracksOfSide {ξ : xX} {M : xM} {a1 a2 : Int32} {z : Int32} (h : f_X3_tracksOfSide a1 a2 = some z) : X ξ mX3_tracksOfSide 0 [.int a1, .int a2] [] SH M 0 0 (xr (some (.int z)) SH M) := by
  rw [f_X3_tracksOfSide] at h
  refine X_iload_n (x := a1) dX3_tracksOfSide_0 rfl ?_
  by_cases e0 : a1 = 0
  · rw [if_pos e0] at h
    refine X_tsIn 0 32 e0 dX3_tracksOfSide_1 (by decide) (by decide) rfl (by decide) ?_
    refine X_iload_n (x := a2) dX3_tracksOfSide_32 rfl ?_
    refine X_if_ne 40 dX3_tracksOfSide_33 (by decide) h (fun h => ?_) (fun h => ?_)
    · refine X_iconst 0 dX3_tracksOfSide_40 rfl ?_
      exact X_retP dX3_tracksOfSide_41 rfl (Nat.le_refl _) (Nat.le_refl _) h
    · refine X_iconst 1 dX3_tracksOfSide_36 rfl ?_
      refine X_goto 41 dX3_tracksOfSide_37 (by decide) ?_
      exact X_retP dX3_tracksOfSide_41 rfl (Nat.le_refl _) (Nat.le_refl _) h
  rw [if_neg e0] at h
  by_cases e1 : a1 = 1
  · rw [if_pos e1] at h
    refine X_tsIn 1 42 e1 dX3_tracksOfSide_1 (by decide) (by decide) rfl (by decide) ?_
    refine X_iload_n (x := a2) dX3_tracksOfSide_42 rfl ?_
    refine X_if_ne 50 dX3_tracksOfSide_43 (by decide) h (fun h => ?_) (fun h => ?_)
    · refine X_iconst 2 dX3_tracksOfSide_50 rfl ?_
      exact X_retP dX3_tracksOfSide_51 rfl (Nat.le_refl _) (Nat.le_refl _) h
    · refine X_iconst 1 dX3_tracksOfSide_46 rfl ?_
      refine X_goto 51 dX3_tracksOfSide_47 (by decide) ?_
      exact X_retP dX3_tracksOfSide_51 rfl (Nat.le_refl _) (Nat.le_refl _) h
  rw [if_neg e1] at h
  by_cases e2 : a1 = 2
  · rw [if_pos e2] at h
    refine X_tsIn 2 52 e2 dX3_tracksOfSide_1 (by decide) (by decide) rfl (by decide) ?_
    refine X_iload_n (x := a2) dX3_tracksOfSide_52 rfl ?_
    refine X_if_ne 60 dX3_tracksOfSide_53 (by decide) h (fun h => ?_) (fun h => ?_)
    · refine X_bipush 10 dX3_tracksOfSide_60 rfl ?_
      exact X_retP dX3_tracksOfSide_62 rfl (Nat.le_refl _) (Nat.le_refl _) h
    · refine X_iconst 5 dX3_tracksOfSide_56 rfl ?_
      refine X_goto 62 dX3_tracksOfSide_57 (by decide) ?_
      exact X_retP dX3_tracksOfSide_62 rfl (Nat.le_refl _) (Nat.le_refl _) h
  rw [if_neg e2] at h
  by_cases e3 : a1 = 3
  · rw [if_pos e3] at h
    refine X_tsIn 3 63 e3 dX3_tracksOfSide_1 (by decide) (by decide) rfl (by decide) ?_
    refine X_iload_n (x := a2) dX3_tracksOfSide_63 rfl ?_
    refine X_if_ne 71 dX3_tracksOfSide_64 (by decide) h (fun h => ?_) (fun h => ?_)
    · refine X_bipush 12 dX3_tracksOfSide_71 rfl ?_
      exact X_retP dX3_tracksOfSide_73 rfl (Nat.le_refl _) (Nat.le_refl _) h
    · refine X_iconst 3 dX3_tracksOfSide_67 rfl ?_
      refine X_goto 73 dX3_tracksOfSide_68 (by decide) ?_
      exact X_retP dX3_tracksOfSide_73 rfl (Nat.le_refl _) (Nat.le_refl _) h
  rw [if_neg e3] at h
  refine X_tsOut 74 dX3_tracksOfSide_1 (xsw_out (lo := 0) 4 (lt_s (lt_s (lt_s (lt_s lt_0 (xne (c := 0) rfl e0)) (xne (c := 1) rfl e1)) (xne (c := 2) rfl e2)) (xne (c := 3) rfl e3))) (by decide) ?_
  refine X_iconst 0 dX3_tracksOfSide_74 rfl ?_
  exact X_retP dX3_tracksOfSide_75 rfl (Nat.le_refl _) (Nat.le_refl _) h
def f_X3_sideOfSet (a1 a2 : Int32) : Option Int32 :=
  if a2 = 0 then (
    some (-1))
  else (
    xb (f_X3_tracksOfSide a1 0) fun v1 =>
    if (a2 &&& (v1 ^^^ (-1))) = 0 then (
      some 0)
    else (
      xb (f_X3_tracksOfSide a1 1) fun v2 =>
      if (a2 &&& (v2 ^^^ (-1))) = 0 then (
        some 1)
      else (
        some (-1))))
set_option maxHeartbeats 1000000 in
theorem x_X3_sideOfSet {ξ : xX} {M : xM} {a1 a2 : Int32} {z : Int32} (h : f_X3_sideOfSet a1 a2 = some z) : X ξ mX3_sideOfSet 0 [.int a1, .int a2] [] SH M 0 0 (xr (some (.int z)) SH M) := by
  rw [f_X3_sideOfSet] at h
  refine X_iload_n (x := a2) dX3_sideOfSet_0 rfl ?_
  refine X_if_ne 6 dX3_sideOfSet_1 (by decide) h (fun h => ?_) (fun h => ?_)
  · refine X_iload_n (x := a2) dX3_sideOfSet_6 rfl ?_
    refine X_iload_n (x := a1) dX3_sideOfSet_7 rfl ?_
    refine X_iconst 0 dX3_sideOfSet_8 rfl ?_
    refine X_sP (μ' := mX3_tracksOfSide) [.int a1, .int 0] [.int a2] kL_RX3_15 kM_X3_tracksOfSide rfl rfl rfl dX3_sideOfSet_9 h (fun _ hv => x_X3_tracksOfSide hv) (fun v1 h => ?_)
    refine X_iconst (-1) dX3_sideOfSet_12 rfl ?_
    refine X_ixor dX3_sideOfSet_13 ?_
    refine X_iand dX3_sideOfSet_14 ?_
    refine X_if_ne 20 dX3_sideOfSet_15 (by decide) h (fun h => ?_) (fun h => ?_)
    · refine X_iload_n (x := a2) dX3_sideOfSet_20 rfl ?_
      refine X_iload_n (x := a1) dX3_sideOfSet_21 rfl ?_
      refine X_iconst 1 dX3_sideOfSet_22 rfl ?_
      refine X_sP (μ' := mX3_tracksOfSide) [.int a1, .int 1] [.int a2] kL_RX3_15 kM_X3_tracksOfSide rfl rfl rfl dX3_sideOfSet_23 h (fun _ hv => x_X3_tracksOfSide hv) (fun v2 h => ?_)
      refine X_iconst (-1) dX3_sideOfSet_26 rfl ?_
      refine X_ixor dX3_sideOfSet_27 ?_
      refine X_iand dX3_sideOfSet_28 ?_
      refine X_if_ne 36 dX3_sideOfSet_29 (by decide) h (fun h => ?_) (fun h => ?_)
      · refine X_iconst (-1) dX3_sideOfSet_36 rfl ?_
        exact X_retP dX3_sideOfSet_37 rfl (Nat.le_refl _) (Nat.le_refl _) h
      · refine X_iconst 1 dX3_sideOfSet_32 rfl ?_
        refine X_goto 37 dX3_sideOfSet_33 (by decide) ?_
        exact X_retP dX3_sideOfSet_37 rfl (Nat.le_refl _) (Nat.le_refl _) h
    · refine X_iconst 0 dX3_sideOfSet_18 rfl ?_
      exact X_retP dX3_sideOfSet_19 rfl (Nat.le_refl _) (Nat.le_refl _) h
  · refine X_iconst (-1) dX3_sideOfSet_4 rfl ?_
    exact X_retP dX3_sideOfSet_5 rfl (Nat.le_refl _) (Nat.le_refl _) h
def f_X3_mirrored (a1 : Int32) : Option Int32 :=
  some ((((((a1 &&& 1) : Int32) <<< ((3 : Int32) &&& 31)) ||| (((a1 &&& 2) : Int32) <<< ((1 : Int32) &&& 31))) ||| (((a1 &&& 4) : Int32) >>> ((1 : Int32) &&& 31))) ||| (((a1 &&& 8) : Int32) >>> ((3 : Int32) &&& 31)))
set_option maxHeartbeats 1000000 in
theorem x_X3_mirrored {ξ : xX} {M : xM} {a1 : Int32} {z : Int32} (h : f_X3_mirrored a1 = some z) : X ξ mX3_mirrored 0 [.int a1] [] SH M 0 0 (xr (some (.int z)) SH M) := by
  rw [f_X3_mirrored] at h
  refine X_iload_n (x := a1) dX3_mirrored_0 rfl ?_
  refine X_iconst 1 dX3_mirrored_1 rfl ?_
  refine X_iand dX3_mirrored_2 ?_
  refine X_iconst 3 dX3_mirrored_3 rfl ?_
  refine X_ishl dX3_mirrored_4 ?_
  refine X_iload_n (x := a1) dX3_mirrored_5 rfl ?_
  refine X_iconst 2 dX3_mirrored_6 rfl ?_
  refine X_iand dX3_mirrored_7 ?_
  refine X_iconst 1 dX3_mirrored_8 rfl ?_
  refine X_ishl dX3_mirrored_9 ?_
  refine X_ior dX3_mirrored_10 ?_
  refine X_iload_n (x := a1) dX3_mirrored_11 rfl ?_
  refine X_iconst 4 dX3_mirrored_12 rfl ?_
  refine X_iand dX3_mirrored_13 ?_
  refine X_iconst 1 dX3_mirrored_14 rfl ?_
  refine X_ishr dX3_mirrored_15 ?_
  refine X_ior dX3_mirrored_16 ?_
  refine X_iload_n (x := a1) dX3_mirrored_17 rfl ?_
  refine X_bipush 8 dX3_mirrored_18 rfl ?_
  refine X_iand dX3_mirrored_20 ?_
  refine X_iconst 3 dX3_mirrored_21 rfl ?_
  refine X_ishr dX3_mirrored_22 ?_
  refine X_ior dX3_mirrored_23 ?_
  exact X_retP dX3_mirrored_24 rfl (Nat.le_refl _) (Nat.le_refl _) h
def f_X3_mostRead_71 (k12 : Int32 → Int32 → Int32 → Int32 → Int32 → Int32 → Option Int32) (i0 : Int32) (i1 : Int32) (i2 : Int32) (i3 : Int32) (i4 : Int32) (i5 : Int32) (i6 : Int32) (i7 : Int32) : Option Int32 :=
  xl (i5 + 1) fun v8 =>
  k12 i0 i1 i2 i3 i4 v8
set_option maxHeartbeats 1000000 in
theorem x_X3_mostRead_71 {ξ : xX} {M : xM} {k12 : Int32 → Int32 → Int32 → Int32 → Int32 → Int32 → Option Int32} {i0 : Int32} {i1 : Int32} {i2 : Int32} {i3 : Int32} {i4 : Int32} {i5 : Int32} {i6 : Int32} {i7 : Int32} (hk12 : ∀ (j0 j1 j2 j3 j4 j5 : Int32) (z : Int32), k12 j0 j1 j2 j3 j4 j5 = some z → X ξ mX3_mostRead 12 [.int j0, .int j1, .int j2, .int j3, .int j4, .int j5] [] SH M 0 0 (xr (some (.int z)) SH M)) {z : Int32} (h : f_X3_mostRead_71 k12 i0 i1 i2 i3 i4 i5 i6 i7 = some z) : X ξ mX3_mostRead 71 [.int i0, .int i1, .int i2, .int i3, .int i4, .int i5, .int i6, .int i7] [] SH M 0 0 (xr (some (.int z)) SH M) := by
  rw [f_X3_mostRead_71] at h
  refine X_iincL (x := i5) 1 (fun v8 => [.int i0, .int i1, .int i2, .int i3, .int i4, .int v8, .int i6, .int i7]) dX3_mostRead_71 rfl rfl (Nat.le_of_ble_eq_true rfl) (xcat1_of rfl) h (fun _ => rfl) (fun v8 h => ?_)
  refine X_goto 12 dX3_mostRead_74 (by decide) ?_
  refine X_cut 6 ?_
  exact hk12 _ _ _ _ _ _ _ h
def f_X3_mostRead_40 (k12 : Int32 → Int32 → Int32 → Int32 → Int32 → Int32 → Option Int32) (i0 : Int32) (i1 : Int32) (i2 : Int32) (i3 : Int32) (i4 : Int32) (i5 : Int32) (i6 : Int32) (s0 : Int32) : Option Int32 :=
  xl s0 fun v9 =>
  if (i4 &&& ((1 : Int32) <<< ((i5 : Int32) &&& 31))) = 0 then (
    f_X3_mostRead_71 k12 i0 i1 i2 i3 i4 i5 i6 v9)
  else (
    if (v9 &&& (i2 ^^^ (-1))) = 0 then (
      xb (f_J6_bitCount_0f7a4 v9) fun v10 =>
      xl (xmx i3 v10) fun v11 =>
      f_X3_mostRead_71 k12 i0 i1 i2 v11 i4 i5 i6 v9)
    else (
      f_X3_mostRead_71 k12 i0 i1 i2 i3 i4 i5 i6 v9))
set_option maxHeartbeats 1000000 in
theorem x_X3_mostRead_40 {ξ : xX} {M : xM} {k12 : Int32 → Int32 → Int32 → Int32 → Int32 → Int32 → Option Int32} {i0 : Int32} {i1 : Int32} {i2 : Int32} {i3 : Int32} {i4 : Int32} {i5 : Int32} {i6 : Int32} {s0 : Int32} (hk12 : ∀ (j0 j1 j2 j3 j4 j5 : Int32) (z : Int32), k12 j0 j1 j2 j3 j4 j5 = some z → X ξ mX3_mostRead 12 [.int j0, .int j1, .int j2, .int j3, .int j4, .int j5] [] SH M 0 0 (xr (some (.int z)) SH M)) {z : Int32} (h : f_X3_mostRead_40 k12 i0 i1 i2 i3 i4 i5 i6 s0 = some z) : X ξ mX3_mostRead 40 [.int i0, .int i1, .int i2, .int i3, .int i4, .int i5, .int i6] [.int s0] SH M 0 0 (xr (some (.int z)) SH M) := by
  rw [f_X3_mostRead_40] at h
  refine X_istoreL (fun v9 => [.int i0, .int i1, .int i2, .int i3, .int i4, .int i5, .int i6, .int v9]) dX3_mostRead_40 (Nat.le_of_ble_eq_true rfl) (Nat.le_of_ble_eq_true rfl) (xcat1_of rfl) h (fun _ => rfl) (fun v9 h => ?_)
  refine X_iload (x := i4) dX3_mostRead_42 rfl ?_
  refine X_iconst 1 dX3_mostRead_44 rfl ?_
  refine X_iload (x := i5) dX3_mostRead_45 rfl ?_
  refine X_ishl dX3_mostRead_47 ?_
  refine X_iand dX3_mostRead_48 ?_
  refine X_if_eq 71 dX3_mostRead_49 (by decide) h (fun h => ?_) (fun h => ?_)
  · exact x_X3_mostRead_71 hk12 h
  · refine X_iload (x := v9) dX3_mostRead_52 rfl ?_
    refine X_iload_n (x := i2) dX3_mostRead_54 rfl ?_
    refine X_iconst (-1) dX3_mostRead_55 rfl ?_
    refine X_ixor dX3_mostRead_56 ?_
    refine X_iand dX3_mostRead_57 ?_
    refine X_if_ne 71 dX3_mostRead_58 (by decide) h (fun h => ?_) (fun h => ?_)
    · exact x_X3_mostRead_71 hk12 h
    · refine X_iload_n (x := i3) dX3_mostRead_61 rfl ?_
      refine X_iload (x := v9) dX3_mostRead_62 rfl ?_
      refine X_sP (μ' := mJ6_bitCount_0f7a4) [.int v9] [.int i3] kL_RX3_26 kM_J6_bitCount_0f7a4 rfl rfl rfl dX3_mostRead_64 h (fun _ hv => x_J6_bitCount_0f7a4 hv) (fun v10 h => ?_)
      refine X_max kJ_RX3_31 (Nat.le_of_ble_eq_true rfl) (Nat.le_of_ble_eq_true rfl) (Nat.le_refl _) (Nat.le_refl _) dX3_mostRead_67 ?_
      refine X_istoreL_n (fun v11 => [.int i0, .int i1, .int i2, .int v11, .int i4, .int i5, .int i6, .int v9]) dX3_mostRead_70 (Nat.le_of_ble_eq_true rfl) (Nat.le_of_ble_eq_true rfl) (xcat1_of rfl) h (fun _ => rfl) (fun v11 h => ?_)
      exact x_X3_mostRead_71 hk12 h
def f_X3_mostRead_12 : Nat → Int32 → Int32 → Int32 → Int32 → Int32 → Int32 → Option Int32
  | 0, _, _, _, _, _, _ => none
  | fu + 1, i0, i1, i2, i3, i4, i5 =>
    if 4 ≤ i5 then (
      some i3)
    else (
      xb (f_X3_stripsOfTrack i0 i5) fun v12 =>
      xl v12 fun v13 =>
      if i1 = 0 then (
        f_X3_mostRead_40 (f_X3_mostRead_12 fu) i0 i1 i2 i3 i4 i5 v13 v13)
      else (
        xb (f_X3_mirrored v13) fun v14 =>
        f_X3_mostRead_40 (f_X3_mostRead_12 fu) i0 i1 i2 i3 i4 i5 v13 v14))
set_option maxHeartbeats 1000000 in
theorem x_X3_mostRead_12 {ξ : xX} {M : xM} : ∀ (fu : Nat) (i0 i1 i2 i3 i4 i5 : Int32) (z : Int32), f_X3_mostRead_12 fu i0 i1 i2 i3 i4 i5 = some z → X ξ mX3_mostRead 12 [.int i0, .int i1, .int i2, .int i3, .int i4, .int i5] [] SH M 0 0 (xr (some (.int z)) SH M) := by
  intro fu
  induction fu with
  | zero => intro i0 i1 i2 i3 i4 i5 z h; rw [f_X3_mostRead_12] at h; cases h
  | succ fu ih =>
    intro i0 i1 i2 i3 i4 i5 z h
    rw [f_X3_mostRead_12] at h
    refine X_iload (x := i5) dX3_mostRead_12 rfl ?_
    refine X_iconst 4 dX3_mostRead_14 rfl ?_
    refine X_icmp_ge 77 dX3_mostRead_15 (by decide) h (fun h => ?_) (fun h => ?_)
    · refine X_iload_n (x := i3) dX3_mostRead_77 rfl ?_
      exact X_retP dX3_mostRead_78 rfl (Nat.le_refl _) (Nat.le_refl _) h
    · refine X_iload_n (x := i0) dX3_mostRead_18 rfl ?_
      refine X_iload (x := i5) dX3_mostRead_19 rfl ?_
      refine X_sP (μ' := mX3_stripsOfTrack) [.int i0, .int i5] [] kL_RX3_19 kM_X3_stripsOfTrack rfl rfl rfl dX3_mostRead_21 h (fun _ hv => x_X3_stripsOfTrack hv) (fun v12 h => ?_)
      refine X_istoreL (fun v13 => [.int i0, .int i1, .int i2, .int i3, .int i4, .int i5, .int v13]) dX3_mostRead_24 (Nat.le_of_ble_eq_true rfl) (Nat.le_of_ble_eq_true rfl) (xcat1_of rfl) h (fun _ => rfl) (fun v13 h => ?_)
      refine X_iload_n (x := i1) dX3_mostRead_26 rfl ?_
      refine X_if_ne 35 dX3_mostRead_27 (by decide) h (fun h => ?_) (fun h => ?_)
      · refine X_iload (x := v13) dX3_mostRead_35 rfl ?_
        refine X_sP (μ' := mX3_mirrored) [.int v13] [] kL_RX3_22 kM_X3_mirrored rfl rfl rfl dX3_mostRead_37 h (fun _ hv => x_X3_mirrored hv) (fun v14 h => ?_)
        exact x_X3_mostRead_40 ih h
      · refine X_iload (x := v13) dX3_mostRead_30 rfl ?_
        refine X_goto 40 dX3_mostRead_32 (by decide) ?_
        exact x_X3_mostRead_40 ih h
def f_X3_mostRead (a1 a2 a3 : Int32) : Option Int32 :=
  xl (0 : Int32) fun v15 =>
  xb (f_X3_tracksOfSide a1 0) fun v16 =>
  xl v16 fun v17 =>
  xl (0 : Int32) fun v18 =>
  f_X3_mostRead_12 xFU a1 a2 a3 v15 v17 v18
set_option maxHeartbeats 1000000 in
theorem x_X3_mostRead {ξ : xX} {M : xM} {a1 a2 a3 : Int32} {z : Int32} (h : f_X3_mostRead a1 a2 a3 = some z) : X ξ mX3_mostRead 0 [.int a1, .int a2, .int a3] [] SH M 0 0 (xr (some (.int z)) SH M) := by
  rw [f_X3_mostRead] at h
  refine X_iconst 0 dX3_mostRead_0 rfl ?_
  refine X_istoreL_n (fun v15 => [.int a1, .int a2, .int a3, .int v15]) dX3_mostRead_1 (Nat.le_of_ble_eq_true rfl) (Nat.le_of_ble_eq_true rfl) (xcat1_of rfl) h (fun _ => rfl) (fun v15 h => ?_)
  refine X_iload_n (x := a1) dX3_mostRead_2 rfl ?_
  refine X_iconst 0 dX3_mostRead_3 rfl ?_
  refine X_sP (μ' := mX3_tracksOfSide) [.int a1, .int 0] [] kL_RX3_15 kM_X3_tracksOfSide rfl rfl rfl dX3_mostRead_4 h (fun _ hv => x_X3_tracksOfSide hv) (fun v16 h => ?_)
  refine X_istoreL (fun v17 => [.int a1, .int a2, .int a3, .int v15, .int v17]) dX3_mostRead_7 (Nat.le_of_ble_eq_true rfl) (Nat.le_of_ble_eq_true rfl) (xcat1_of rfl) h (fun _ => rfl) (fun v17 h => ?_)
  refine X_iconst 0 dX3_mostRead_9 rfl ?_
  refine X_istoreL (fun v18 => [.int a1, .int a2, .int a3, .int v15, .int v17, .int v18]) dX3_mostRead_10 (Nat.le_of_ble_eq_true rfl) (Nat.le_of_ble_eq_true rfl) (xcat1_of rfl) h (fun _ => rfl) (fun v18 h => ?_)
  exact x_X3_mostRead_12 _ _ _ _ _ _ _ _ h
