def f_L_cell_20 (ξ : xX) (i1 : Int32) (s0 : Int32) : Option Int32 :=
  some (s0 &&& 2147483647)
set_option maxHeartbeats 1000000 in
theorem x_L_cell_20 {ξ : xX} {M : xM} {i1 : Int32} {s0 : Int32} {z : Int32} (h : f_L_cell_20 ξ i1 s0 = some z) : X ξ mL_cell 20 [.float 3, .int i1] [.int s0] SH M 0 0 (xr (some (.int z)) SH M) := by
  rw [f_L_cell_20] at h
  refine X_ldc 2147483647 kC_RL_8 dL_cell_20 ?_
  refine X_iand dL_cell_22 ?_
  exact X_retP dL_cell_23 rfl (Nat.le_refl _) (Nat.le_refl _) h
def f_L_cell (ξ : xX) (a1 : Int32) : Option Int32 :=
  if (Int32.ofNat ξ.1) ≤ a1 then (
    f_L_cell_20 ξ a1 ((15552301 * a1) + 719))
  else (
    xgd (xin a1 ξ.1) <|
    f_L_cell_20 ξ a1 (ξ.2 a1.toNatClampNeg))
set_option maxHeartbeats 1000000 in
theorem x_L_cell {ξ : xX} {M : xM} {a1 : Int32} {z : Int32} (h : f_L_cell ξ a1 = some z) : X ξ mL_cell 0 [.float 3, .int a1] [] SH M 0 0 (xr (some (.int z)) SH M) := by
  rw [f_L_cell] at h
  refine X_iload_n (x := a1) dL_cell_0 rfl ?_
  refine X_aload_nF dL_cell_1 rfl ?_
  refine X_alen3 dL_cell_2 ?_
  refine X_icmp_ge 12 dL_cell_3 (by decide) h (fun h => ?_) (fun h => ?_)
  · refine X_ldc 15552301 kC_RL_7 dL_cell_12 ?_
    refine X_iload_n (x := a1) dL_cell_14 rfl ?_
    refine X_imul dL_cell_15 ?_
    refine X_sipush 719 dL_cell_16 rfl ?_
    refine X_iadd dL_cell_19 ?_
    exact x_L_cell_20 h
  · refine X_aload_nF dL_cell_6 rfl ?_
    refine X_iload_n (x := a1) dL_cell_7 rfl ?_
    refine X_iald3 dL_cell_8 h (fun h => ?_)
    refine X_goto 20 dL_cell_9 (by decide) ?_
    exact x_L_cell_20 h
def f_L_speed (a1 a2 : Int32) : Option Int32 :=
  if a1 = 2 then (
    some 48)
  else (
    if a1 = 1 then (
      some ((95 : Int32) <<< ((a2 : Int32) &&& 31)))
    else (
      if a2 = 0 then (
        some 33)
      else (
        if a2 = 1 then (
          some 45)
        else (
          some 78))))
set_option maxHeartbeats 1000000 in
theorem x_L_speed {ξ : xX} {M : xM} {a1 a2 : Int32} {z : Int32} (h : f_L_speed a1 a2 = some z) : X ξ mL_speed 0 [.int a1, .int a2] [] SH M 0 0 (xr (some (.int z)) SH M) := by
  rw [f_L_speed] at h
  refine X_iload_n (x := a1) dL_speed_0 rfl ?_
  refine X_iconst 2 dL_speed_1 rfl ?_
  refine X_icmp_ne 10 dL_speed_2 (by decide) h (fun h => ?_) (fun h => ?_)
  · refine X_iload_n (x := a1) dL_speed_10 rfl ?_
    refine X_iconst 1 dL_speed_11 rfl ?_
    refine X_icmp_ne 22 dL_speed_12 (by decide) h (fun h => ?_) (fun h => ?_)
    · refine X_iload_n (x := a2) dL_speed_22 rfl ?_
      refine X_if_ne 31 dL_speed_23 (by decide) h (fun h => ?_) (fun h => ?_)
      · refine X_iload_n (x := a2) dL_speed_31 rfl ?_
        refine X_iconst 1 dL_speed_32 rfl ?_
        refine X_icmp_ne 41 dL_speed_33 (by decide) h (fun h => ?_) (fun h => ?_)
        · refine X_bipush 78 dL_speed_41 rfl ?_
          exact X_retP dL_speed_43 rfl (Nat.le_refl _) (Nat.le_refl _) h
        · refine X_bipush 45 dL_speed_36 rfl ?_
          refine X_goto 43 dL_speed_38 (by decide) ?_
          exact X_retP dL_speed_43 rfl (Nat.le_refl _) (Nat.le_refl _) h
      · refine X_bipush 33 dL_speed_26 rfl ?_
        refine X_goto 43 dL_speed_28 (by decide) ?_
        exact X_retP dL_speed_43 rfl (Nat.le_refl _) (Nat.le_refl _) h
    · refine X_bipush 95 dL_speed_15 rfl ?_
      refine X_iload_n (x := a2) dL_speed_17 rfl ?_
      refine X_ishl dL_speed_18 ?_
      refine X_goto 43 dL_speed_19 (by decide) ?_
      exact X_retP dL_speed_43 rfl (Nat.le_refl _) (Nat.le_refl _) h
  · refine X_bipush 48 dL_speed_5 rfl ?_
    refine X_goto 43 dL_speed_7 (by decide) ?_
    exact X_retP dL_speed_43 rfl (Nat.le_refl _) (Nat.le_refl _) h
def f_L_layout (a1 a2 : Int32) : Option Int32 :=
  if a1 = 1 then (
    some (a2 - a2 / 3 * 3))
  else (
    some (((a2 - a2 / 2 * 2) * 2) + 1))
set_option maxHeartbeats 1000000 in
theorem x_L_layout {ξ : xX} {M : xM} {a1 a2 : Int32} {z : Int32} (h : f_L_layout a1 a2 = some z) : X ξ mL_layout 0 [.int a1, .int a2] [] SH M 0 0 (xr (some (.int z)) SH M) := by
  rw [f_L_layout] at h
  refine X_iload_n (x := a1) dL_layout_0 rfl ?_
  refine X_iconst 1 dL_layout_1 rfl ?_
  refine X_icmp_ne 11 dL_layout_2 (by decide) h (fun h => ?_) (fun h => ?_)
  · refine X_iload_n (x := a2) dL_layout_11 rfl ?_
    refine X_iconst 2 dL_layout_12 rfl ?_
    refine X_irem (by decide) dL_layout_13 ?_
    refine X_iconst 2 dL_layout_14 rfl ?_
    refine X_imul dL_layout_15 ?_
    refine X_iconst 1 dL_layout_16 rfl ?_
    refine X_iadd dL_layout_17 ?_
    exact X_retP dL_layout_18 rfl (Nat.le_refl _) (Nat.le_refl _) h
  · refine X_iload_n (x := a2) dL_layout_5 rfl ?_
    refine X_iconst 3 dL_layout_6 rfl ?_
    refine X_irem (by decide) dL_layout_7 ?_
    refine X_goto 18 dL_layout_8 (by decide) ?_
    exact X_retP dL_layout_18 rfl (Nat.le_refl _) (Nat.le_refl _) h
def f_L_requests_240 (M : xM) (k69 : Int32 → Int32 → Int32 → Int32 → Option Int32) (i1 : Int32) (i2 : Int32) (i3 : Int32) (i4 : Int32) (i5 : Int32) (i6 : Int32) (i7 : Int32) (i8 : Int32) (i9 : Int32) (s0 : Int32) : Option Int32 :=
  xl s0 fun v25 =>
  xl (i4 + 1) fun v26 =>
  k69 i1 i2 v25 v26
set_option maxHeartbeats 1000000 in
theorem x_L_requests_240 {ξ : xX} {M : xM} {k69 : Int32 → Int32 → Int32 → Int32 → Option Int32} {i1 : Int32} {i2 : Int32} {i3 : Int32} {i4 : Int32} {i5 : Int32} {i6 : Int32} {i7 : Int32} {i8 : Int32} {i9 : Int32} {s0 : Int32} (hk69 : ∀ (j1 j2 j3 j4 : Int32) (z : Int32), k69 j1 j2 j3 j4 = some z → X ξ mL_requests 69 [.ref 0, .int j1, .int j2, .int j3, .int j4] [] SH M 0 0 (xr (some (.int z)) SH M)) {z : Int32} (h : f_L_requests_240 M k69 i1 i2 i3 i4 i5 i6 i7 i8 i9 s0 = some z) : X ξ mL_requests 240 [.ref 0, .int i1, .int i2, .int i3, .int i4, .int i5, .int i6, .int i7, .int i8, .int i9] [.int s0] SH M 0 0 (xr (some (.int z)) SH M) := by
  rw [f_L_requests_240] at h
  refine X_istoreL_n (fun v25 => [.ref 0, .int i1, .int i2, .int v25, .int i4, .int i5, .int i6, .int i7, .int i8, .int i9]) dL_requests_240 (Nat.le_of_ble_eq_true rfl) (Nat.le_of_ble_eq_true rfl) (xcat1_of rfl) h (fun _ => rfl) (fun v25 h => ?_)
  refine X_iincL (x := i4) 1 (fun v26 => [.ref 0, .int i1, .int i2, .int v25, .int v26, .int i5, .int i6, .int i7, .int i8, .int i9]) dL_requests_241 rfl rfl (Nat.le_of_ble_eq_true rfl) (xcat1_of rfl) h (fun _ => rfl) (fun v26 h => ?_)
  refine X_goto 69 dL_requests_244 (by decide) ?_
  refine X_cut 5 ?_
  exact hk69 _ _ _ _ _ h
def f_L_requests_235 (M : xM) (k69 : Int32 → Int32 → Int32 → Int32 → Option Int32) (i1 : Int32) (i2 : Int32) (i3 : Int32) (i4 : Int32) (i5 : Int32) (i6 : Int32) (i7 : Int32) (i8 : Int32) (i9 : Int32) : Option Int32 :=
  f_L_requests_240 M k69 i1 i2 i3 i4 i5 i6 i7 i8 i9 1
set_option maxHeartbeats 1000000 in
theorem x_L_requests_235 {ξ : xX} {M : xM} {k69 : Int32 → Int32 → Int32 → Int32 → Option Int32} {i1 : Int32} {i2 : Int32} {i3 : Int32} {i4 : Int32} {i5 : Int32} {i6 : Int32} {i7 : Int32} {i8 : Int32} {i9 : Int32} (hk69 : ∀ (j1 j2 j3 j4 : Int32) (z : Int32), k69 j1 j2 j3 j4 = some z → X ξ mL_requests 69 [.ref 0, .int j1, .int j2, .int j3, .int j4] [] SH M 0 0 (xr (some (.int z)) SH M)) {z : Int32} (h : f_L_requests_235 M k69 i1 i2 i3 i4 i5 i6 i7 i8 i9 = some z) : X ξ mL_requests 235 [.ref 0, .int i1, .int i2, .int i3, .int i4, .int i5, .int i6, .int i7, .int i8, .int i9] [] SH M 0 0 (xr (some (.int z)) SH M) := by
  rw [f_L_requests_235] at h
  refine X_iconst 1 dL_requests_235 rfl ?_
  refine X_goto 240 dL_requests_236 (by decide) ?_
  exact x_L_requests_240 hk69 h
def f_L_requests_239 (M : xM) (k69 : Int32 → Int32 → Int32 → Int32 → Option Int32) (i1 : Int32) (i2 : Int32) (i3 : Int32) (i4 : Int32) (i5 : Int32) (i6 : Int32) (i7 : Int32) (i8 : Int32) (i9 : Int32) : Option Int32 :=
  f_L_requests_240 M k69 i1 i2 i3 i4 i5 i6 i7 i8 i9 0
set_option maxHeartbeats 1000000 in
theorem x_L_requests_239 {ξ : xX} {M : xM} {k69 : Int32 → Int32 → Int32 → Int32 → Option Int32} {i1 : Int32} {i2 : Int32} {i3 : Int32} {i4 : Int32} {i5 : Int32} {i6 : Int32} {i7 : Int32} {i8 : Int32} {i9 : Int32} (hk69 : ∀ (j1 j2 j3 j4 : Int32) (z : Int32), k69 j1 j2 j3 j4 = some z → X ξ mL_requests 69 [.ref 0, .int j1, .int j2, .int j3, .int j4] [] SH M 0 0 (xr (some (.int z)) SH M)) {z : Int32} (h : f_L_requests_239 M k69 i1 i2 i3 i4 i5 i6 i7 i8 i9 = some z) : X ξ mL_requests 239 [.ref 0, .int i1, .int i2, .int i3, .int i4, .int i5, .int i6, .int i7, .int i8, .int i9] [] SH M 0 0 (xr (some (.int z)) SH M) := by
  rw [f_L_requests_239] at h
  refine X_iconst 0 dL_requests_239 rfl ?_
  exact x_L_requests_240 hk69 h
def f_L_requests_198 (M : xM) (k69 : Int32 → Int32 → Int32 → Int32 → Option Int32) (i1 : Int32) (i2 : Int32) (i3 : Int32) (i4 : Int32) (i5 : Int32) (i6 : Int32) (i7 : Int32) (i8 : Int32) (i9 : Int32) (s0 : Int32) : Option Int32 :=
  xl s0 fun v27 =>
  if v27 = 0 then (
    f_L_requests_239 M k69 i1 i2 v27 i4 i5 i6 i7 i8 i9)
  else (
    if 0 < i7 then (
      f_L_requests_235 M k69 i1 i2 v27 i4 i5 i6 i7 i8 i9)
    else (
      if 0 < i8 then (
        f_L_requests_235 M k69 i1 i2 v27 i4 i5 i6 i7 i8 i9)
      else (
        if i8 = 0 then (
          if 0 < i9 then (
            f_L_requests_235 M k69 i1 i2 v27 i4 i5 i6 i7 i8 i9)
          else (
            if i9 = 0 then (
              if i5 < i6 then (
                f_L_requests_239 M k69 i1 i2 v27 i4 i5 i6 i7 i8 i9)
              else (
                f_L_requests_235 M k69 i1 i2 v27 i4 i5 i6 i7 i8 i9))
            else (
              f_L_requests_239 M k69 i1 i2 v27 i4 i5 i6 i7 i8 i9)))
        else (
          f_L_requests_239 M k69 i1 i2 v27 i4 i5 i6 i7 i8 i9))))
set_option maxHeartbeats 1000000 in
theorem x_L_requests_198 {ξ : xX} {M : xM} {k69 : Int32 → Int32 → Int32 → Int32 → Option Int32} {i1 : Int32} {i2 : Int32} {i3 : Int32} {i4 : Int32} {i5 : Int32} {i6 : Int32} {i7 : Int32} {i8 : Int32} {i9 : Int32} {s0 : Int32} (hk69 : ∀ (j1 j2 j3 j4 : Int32) (z : Int32), k69 j1 j2 j3 j4 = some z → X ξ mL_requests 69 [.ref 0, .int j1, .int j2, .int j3, .int j4] [] SH M 0 0 (xr (some (.int z)) SH M)) {z : Int32} (h : f_L_requests_198 M k69 i1 i2 i3 i4 i5 i6 i7 i8 i9 s0 = some z) : X ξ mL_requests 198 [.ref 0, .int i1, .int i2, .int i3, .int i4, .int i5, .int i6, .int i7, .int i8, .int i9] [.int s0] SH M 0 0 (xr (some (.int z)) SH M) := by
  rw [f_L_requests_198] at h
  refine X_istoreL_n (fun v27 => [.ref 0, .int i1, .int i2, .int v27, .int i4, .int i5, .int i6, .int i7, .int i8, .int i9]) dL_requests_198 (Nat.le_of_ble_eq_true rfl) (Nat.le_of_ble_eq_true rfl) (xcat1_of rfl) h (fun _ => rfl) (fun v27 h => ?_)
  refine X_iload_n (x := v27) dL_requests_199 rfl ?_
  refine X_if_eq 239 dL_requests_200 (by decide) h (fun h => ?_) (fun h => ?_)
  · exact x_L_requests_239 hk69 h
  · refine X_iload (x := i7) dL_requests_203 rfl ?_
    refine X_if_gt 235 dL_requests_205 (by decide) h (fun h => ?_) (fun h => ?_)
    · exact x_L_requests_235 hk69 h
    · refine X_iload (x := i8) dL_requests_208 rfl ?_
      refine X_if_gt 235 dL_requests_210 (by decide) h (fun h => ?_) (fun h => ?_)
      · exact x_L_requests_235 hk69 h
      · refine X_iload (x := i8) dL_requests_213 rfl ?_
        refine X_if_ne 239 dL_requests_215 (by decide) h (fun h => ?_) (fun h => ?_)
        · exact x_L_requests_239 hk69 h
        · refine X_iload (x := i9) dL_requests_218 rfl ?_
          refine X_if_gt 235 dL_requests_220 (by decide) h (fun h => ?_) (fun h => ?_)
          · exact x_L_requests_235 hk69 h
          · refine X_iload (x := i9) dL_requests_223 rfl ?_
            refine X_if_ne 239 dL_requests_225 (by decide) h (fun h => ?_) (fun h => ?_)
            · exact x_L_requests_239 hk69 h
            · refine X_iload (x := i5) dL_requests_228 rfl ?_
              refine X_iload (x := i6) dL_requests_230 rfl ?_
              refine X_icmp_lt 239 dL_requests_232 (by decide) h (fun h => ?_) (fun h => ?_)
              · exact x_L_requests_239 hk69 h
              · exact x_L_requests_235 hk69 h
def f_L_requests_197 (M : xM) (k69 : Int32 → Int32 → Int32 → Int32 → Option Int32) (i1 : Int32) (i2 : Int32) (i3 : Int32) (i4 : Int32) (i5 : Int32) (i6 : Int32) (i7 : Int32) (i8 : Int32) (i9 : Int32) : Option Int32 :=
  f_L_requests_198 M k69 i1 i2 i3 i4 i5 i6 i7 i8 i9 0
set_option maxHeartbeats 1000000 in
theorem x_L_requests_197 {ξ : xX} {M : xM} {k69 : Int32 → Int32 → Int32 → Int32 → Option Int32} {i1 : Int32} {i2 : Int32} {i3 : Int32} {i4 : Int32} {i5 : Int32} {i6 : Int32} {i7 : Int32} {i8 : Int32} {i9 : Int32} (hk69 : ∀ (j1 j2 j3 j4 : Int32) (z : Int32), k69 j1 j2 j3 j4 = some z → X ξ mL_requests 69 [.ref 0, .int j1, .int j2, .int j3, .int j4] [] SH M 0 0 (xr (some (.int z)) SH M)) {z : Int32} (h : f_L_requests_197 M k69 i1 i2 i3 i4 i5 i6 i7 i8 i9 = some z) : X ξ mL_requests 197 [.ref 0, .int i1, .int i2, .int i3, .int i4, .int i5, .int i6, .int i7, .int i8, .int i9] [] SH M 0 0 (xr (some (.int z)) SH M) := by
  rw [f_L_requests_197] at h
  refine X_iconst 0 dL_requests_197 rfl ?_
  exact x_L_requests_198 hk69 h
def f_L_requests_105 (M : xM) (k69 : Int32 → Int32 → Int32 → Int32 → Option Int32) (i1 : Int32) (i2 : Int32) (i3 : Int32) (i4 : Int32) (i5 : Int32) (s0 : Int32) : Option Int32 :=
  xl s0 fun v28 =>
  xb (f_X8_requested M i5 7) fun v29 =>
  xb (f_X8_requested M v28 7) fun v30 =>
  xl (v29 - v30) fun v31 =>
  xb (f_X8_requested M v28 5) fun v32 =>
  xb (f_X8_requested M i5 5) fun v33 =>
  xl (v32 - v33) fun v34 =>
  xb (f_X8_requested M v28 6) fun v35 =>
  xb (f_X8_requested M i5 6) fun v36 =>
  xl (v35 - v36) fun v37 =>
  xb (f_X8_requested M i5 0) fun v38 =>
  if v38 = 0 then (
    xb (f_X8_requested M i5 7) fun v39 =>
    xb (f_X8_total M 0) fun v40 =>
    if v39 < v40 then (
      f_L_requests_197 M k69 i1 i2 i3 i4 i5 v28 v31 v34 v37)
    else (
      if v31 < 0 then (
        f_L_requests_197 M k69 i1 i2 i3 i4 i5 v28 v31 v34 v37)
      else (
        f_L_requests_198 M k69 i1 i2 i3 i4 i5 v28 v31 v34 v37 1)))
  else (
    f_L_requests_197 M k69 i1 i2 i3 i4 i5 v28 v31 v34 v37)
set_option maxHeartbeats 1000000 in
theorem x_L_requests_105 {ξ : xX} {M : xM} {k69 : Int32 → Int32 → Int32 → Int32 → Option Int32} {i1 : Int32} {i2 : Int32} {i3 : Int32} {i4 : Int32} {i5 : Int32} {s0 : Int32} (hk69 : ∀ (j1 j2 j3 j4 : Int32) (z : Int32), k69 j1 j2 j3 j4 = some z → X ξ mL_requests 69 [.ref 0, .int j1, .int j2, .int j3, .int j4] [] SH M 0 0 (xr (some (.int z)) SH M)) {z : Int32} (h : f_L_requests_105 M k69 i1 i2 i3 i4 i5 s0 = some z) : X ξ mL_requests 105 [.ref 0, .int i1, .int i2, .int i3, .int i4, .int i5] [.int s0] SH M 0 0 (xr (some (.int z)) SH M) := by
  rw [f_L_requests_105] at h
  refine X_istoreL (fun v28 => [.ref 0, .int i1, .int i2, .int i3, .int i4, .int i5, .int v28]) dL_requests_105 (Nat.le_of_ble_eq_true rfl) (Nat.le_of_ble_eq_true rfl) (xcat1_of rfl) h (fun _ => rfl) (fun v28 h => ?_)
  refine X_aload_n (x := 0) dL_requests_107 rfl ?_
  refine X_iload (x := i5) dL_requests_108 rfl ?_
  refine X_bipush 7 dL_requests_110 rfl ?_
  refine X_vP (μ' := mX8_requested) [.int i5, .int 7] [] kL_RL_18 kM_X8_requested rv_0 rfl rfl rfl dL_requests_112 h (fun _ hv => x_X8_requested hv) (fun v29 h => ?_)
  refine X_aload_n (x := 0) dL_requests_115 rfl ?_
  refine X_iload (x := v28) dL_requests_116 rfl ?_
  refine X_bipush 7 dL_requests_118 rfl ?_
  refine X_vP (μ' := mX8_requested) [.int v28, .int 7] [.int v29] kL_RL_18 kM_X8_requested rv_0 rfl rfl rfl dL_requests_120 h (fun _ hv => x_X8_requested hv) (fun v30 h => ?_)
  refine X_isub dL_requests_123 ?_
  refine X_istoreL (fun v31 => [.ref 0, .int i1, .int i2, .int i3, .int i4, .int i5, .int v28, .int v31]) dL_requests_124 (Nat.le_of_ble_eq_true rfl) (Nat.le_of_ble_eq_true rfl) (xcat1_of rfl) h (fun _ => rfl) (fun v31 h => ?_)
  refine X_aload_n (x := 0) dL_requests_126 rfl ?_
  refine X_iload (x := v28) dL_requests_127 rfl ?_
  refine X_iconst 5 dL_requests_129 rfl ?_
  refine X_vP (μ' := mX8_requested) [.int v28, .int 5] [] kL_RL_18 kM_X8_requested rv_0 rfl rfl rfl dL_requests_130 h (fun _ hv => x_X8_requested hv) (fun v32 h => ?_)
  refine X_aload_n (x := 0) dL_requests_133 rfl ?_
  refine X_iload (x := i5) dL_requests_134 rfl ?_
  refine X_iconst 5 dL_requests_136 rfl ?_
  refine X_vP (μ' := mX8_requested) [.int i5, .int 5] [.int v32] kL_RL_18 kM_X8_requested rv_0 rfl rfl rfl dL_requests_137 h (fun _ hv => x_X8_requested hv) (fun v33 h => ?_)
  refine X_isub dL_requests_140 ?_
  refine X_istoreL (fun v34 => [.ref 0, .int i1, .int i2, .int i3, .int i4, .int i5, .int v28, .int v31, .int v34]) dL_requests_141 (Nat.le_of_ble_eq_true rfl) (Nat.le_of_ble_eq_true rfl) (xcat1_of rfl) h (fun _ => rfl) (fun v34 h => ?_)
  refine X_aload_n (x := 0) dL_requests_143 rfl ?_
  refine X_iload (x := v28) dL_requests_144 rfl ?_
  refine X_bipush 6 dL_requests_146 rfl ?_
  refine X_vP (μ' := mX8_requested) [.int v28, .int 6] [] kL_RL_18 kM_X8_requested rv_0 rfl rfl rfl dL_requests_148 h (fun _ hv => x_X8_requested hv) (fun v35 h => ?_)
  refine X_aload_n (x := 0) dL_requests_151 rfl ?_
  refine X_iload (x := i5) dL_requests_152 rfl ?_
  refine X_bipush 6 dL_requests_154 rfl ?_
  refine X_vP (μ' := mX8_requested) [.int i5, .int 6] [.int v35] kL_RL_18 kM_X8_requested rv_0 rfl rfl rfl dL_requests_156 h (fun _ hv => x_X8_requested hv) (fun v36 h => ?_)
  refine X_isub dL_requests_159 ?_
  refine X_istoreL (fun v37 => [.ref 0, .int i1, .int i2, .int i3, .int i4, .int i5, .int v28, .int v31, .int v34, .int v37]) dL_requests_160 (Nat.le_of_ble_eq_true rfl) (Nat.le_of_ble_eq_true rfl) (xcat1_of rfl) h (fun _ => rfl) (fun v37 h => ?_)
  refine X_aload_n (x := 0) dL_requests_162 rfl ?_
  refine X_iload (x := i5) dL_requests_163 rfl ?_
  refine X_iconst 0 dL_requests_165 rfl ?_
  refine X_vP (μ' := mX8_requested) [.int i5, .int 0] [] kL_RL_18 kM_X8_requested rv_0 rfl rfl rfl dL_requests_166 h (fun _ hv => x_X8_requested hv) (fun v38 h => ?_)
  refine X_if_ne 197 dL_requests_169 (by decide) h (fun h => ?_) (fun h => ?_)
  · exact x_L_requests_197 hk69 h
  · refine X_aload_n (x := 0) dL_requests_172 rfl ?_
    refine X_iload (x := i5) dL_requests_173 rfl ?_
    refine X_bipush 7 dL_requests_175 rfl ?_
    refine X_vP (μ' := mX8_requested) [.int i5, .int 7] [] kL_RL_18 kM_X8_requested rv_0 rfl rfl rfl dL_requests_177 h (fun _ hv => x_X8_requested hv) (fun v39 h => ?_)
    refine X_aload_n (x := 0) dL_requests_180 rfl ?_
    refine X_iconst 0 dL_requests_181 rfl ?_
    refine X_vP (μ' := mX8_total) [.int 0] [.int v39] kL_RL_9 kM_X8_total rv_0 rfl rfl rfl dL_requests_182 h (fun _ hv => x_X8_total hv) (fun v40 h => ?_)
    refine X_icmp_lt 197 dL_requests_185 (by decide) h (fun h => ?_) (fun h => ?_)
    · exact x_L_requests_197 hk69 h
    · refine X_iload (x := v31) dL_requests_188 rfl ?_
      refine X_if_lt 197 dL_requests_190 (by decide) h (fun h => ?_) (fun h => ?_)
      · exact x_L_requests_197 hk69 h
      · refine X_iconst 1 dL_requests_193 rfl ?_
        refine X_goto 198 dL_requests_194 (by decide) ?_
        exact x_L_requests_198 hk69 h
def f_L_requests_405 (M : xM) (k297 : Int32 → Int32 → Int32 → Int32 → Int32 → Int32 → Int32 → Option Int32) (i1 : Int32) (i2 : Int32) (i3 : Int32) (i4 : Int32) (i5 : Int32) (i6 : Int32) (i7 : Int32) (i8 : Int32) (s0 : Int32) : Option Int32 :=
  xl s0 fun v41 =>
  xl (i7 + 1) fun v42 =>
  k297 i1 i2 v41 i4 i5 i6 v42
set_option maxHeartbeats 1000000 in
theorem x_L_requests_405 {ξ : xX} {M : xM} {k297 : Int32 → Int32 → Int32 → Int32 → Int32 → Int32 → Int32 → Option Int32} {i1 : Int32} {i2 : Int32} {i3 : Int32} {i4 : Int32} {i5 : Int32} {i6 : Int32} {i7 : Int32} {i8 : Int32} {s0 : Int32} (hk297 : ∀ (j1 j2 j3 j4 j5 j6 j7 : Int32) (z : Int32), k297 j1 j2 j3 j4 j5 j6 j7 = some z → X ξ mL_requests 297 [.ref 0, .int j1, .int j2, .int j3, .int j4, .int j5, .int j6, .int j7] [] SH M 0 0 (xr (some (.int z)) SH M)) {z : Int32} (h : f_L_requests_405 M k297 i1 i2 i3 i4 i5 i6 i7 i8 s0 = some z) : X ξ mL_requests 405 [.ref 0, .int i1, .int i2, .int i3, .int i4, .int i5, .int i6, .int i7, .int i8] [.int s0] SH M 0 0 (xr (some (.int z)) SH M) := by
  rw [f_L_requests_405] at h
  refine X_istoreL_n (fun v41 => [.ref 0, .int i1, .int i2, .int v41, .int i4, .int i5, .int i6, .int i7, .int i8]) dL_requests_405 (Nat.le_of_ble_eq_true rfl) (Nat.le_of_ble_eq_true rfl) (xcat1_of rfl) h (fun _ => rfl) (fun v41 h => ?_)
  refine X_iincL (x := i7) 1 (fun v42 => [.ref 0, .int i1, .int i2, .int v41, .int i4, .int i5, .int i6, .int v42, .int i8]) dL_requests_406 rfl rfl (Nat.le_of_ble_eq_true rfl) (xcat1_of rfl) h (fun _ => rfl) (fun v42 h => ?_)
  refine X_goto 297 dL_requests_409 (by decide) ?_
  refine X_cut 8 ?_
  exact hk297 _ _ _ _ _ _ _ _ h
def f_L_requests_400 (M : xM) (k297 : Int32 → Int32 → Int32 → Int32 → Int32 → Int32 → Int32 → Option Int32) (i1 : Int32) (i2 : Int32) (i3 : Int32) (i4 : Int32) (i5 : Int32) (i6 : Int32) (i7 : Int32) (i8 : Int32) : Option Int32 :=
  f_L_requests_405 M k297 i1 i2 i3 i4 i5 i6 i7 i8 1
set_option maxHeartbeats 1000000 in
theorem x_L_requests_400 {ξ : xX} {M : xM} {k297 : Int32 → Int32 → Int32 → Int32 → Int32 → Int32 → Int32 → Option Int32} {i1 : Int32} {i2 : Int32} {i3 : Int32} {i4 : Int32} {i5 : Int32} {i6 : Int32} {i7 : Int32} {i8 : Int32} (hk297 : ∀ (j1 j2 j3 j4 j5 j6 j7 : Int32) (z : Int32), k297 j1 j2 j3 j4 j5 j6 j7 = some z → X ξ mL_requests 297 [.ref 0, .int j1, .int j2, .int j3, .int j4, .int j5, .int j6, .int j7] [] SH M 0 0 (xr (some (.int z)) SH M)) {z : Int32} (h : f_L_requests_400 M k297 i1 i2 i3 i4 i5 i6 i7 i8 = some z) : X ξ mL_requests 400 [.ref 0, .int i1, .int i2, .int i3, .int i4, .int i5, .int i6, .int i7, .int i8] [] SH M 0 0 (xr (some (.int z)) SH M) := by
  rw [f_L_requests_400] at h
  refine X_iconst 1 dL_requests_400 rfl ?_
  refine X_goto 405 dL_requests_401 (by decide) ?_
  exact x_L_requests_405 hk297 h
def f_L_requests_404 (M : xM) (k297 : Int32 → Int32 → Int32 → Int32 → Int32 → Int32 → Int32 → Option Int32) (i1 : Int32) (i2 : Int32) (i3 : Int32) (i4 : Int32) (i5 : Int32) (i6 : Int32) (i7 : Int32) (i8 : Int32) : Option Int32 :=
  f_L_requests_405 M k297 i1 i2 i3 i4 i5 i6 i7 i8 0
set_option maxHeartbeats 1000000 in
theorem x_L_requests_404 {ξ : xX} {M : xM} {k297 : Int32 → Int32 → Int32 → Int32 → Int32 → Int32 → Int32 → Option Int32} {i1 : Int32} {i2 : Int32} {i3 : Int32} {i4 : Int32} {i5 : Int32} {i6 : Int32} {i7 : Int32} {i8 : Int32} (hk297 : ∀ (j1 j2 j3 j4 j5 j6 j7 : Int32) (z : Int32), k297 j1 j2 j3 j4 j5 j6 j7 = some z → X ξ mL_requests 297 [.ref 0, .int j1, .int j2, .int j3, .int j4, .int j5, .int j6, .int j7] [] SH M 0 0 (xr (some (.int z)) SH M)) {z : Int32} (h : f_L_requests_404 M k297 i1 i2 i3 i4 i5 i6 i7 i8 = some z) : X ξ mL_requests 404 [.ref 0, .int i1, .int i2, .int i3, .int i4, .int i5, .int i6, .int i7, .int i8] [] SH M 0 0 (xr (some (.int z)) SH M) := by
  rw [f_L_requests_404] at h
  refine X_iconst 0 dL_requests_404 rfl ?_
  exact x_L_requests_405 hk297 h
def f_L_requests_319 (M : xM) (k297 : Int32 → Int32 → Int32 → Int32 → Int32 → Int32 → Int32 → Option Int32) (i1 : Int32) (i2 : Int32) (i3 : Int32) (i4 : Int32) (i5 : Int32) (i6 : Int32) (i7 : Int32) (s0 : Int32) : Option Int32 :=
  xl s0 fun v43 =>
  xb (f_X8_requested M i7 9) fun v44 =>
  xl (i6 + v44) fun v45 =>
  if i3 = 0 then (
    f_L_requests_404 M k297 i1 i2 i3 i4 i5 v45 i7 v43)
  else (
    if v43 = 0 then (
      xb (f_X8_requested M i7 8) fun v46 =>
      if v46 = (-6) then (
        xb (f_X8_requested M i7 9) fun v47 =>
        if v47 = 0 then (
          f_L_requests_400 M k297 i1 i2 i3 i4 i5 v45 i7 v43)
        else (
          f_L_requests_404 M k297 i1 i2 i3 i4 i5 v45 i7 v43))
      else (
        f_L_requests_404 M k297 i1 i2 i3 i4 i5 v45 i7 v43))
    else (
      xb (f_X8_requested M i7 8) fun v48 =>
      xb (f_X8_requested M i7 2) fun v49 =>
      xb (f_X8_quality M v48 v49) fun v50 =>
      xb (f_X8_requested M i7 6) fun v51 =>
      if v50 < v51 then (
        f_L_requests_404 M k297 i1 i2 i3 i4 i5 v45 i7 v43)
      else (
        f_L_requests_400 M k297 i1 i2 i3 i4 i5 v45 i7 v43)))
set_option maxHeartbeats 1000000 in
theorem x_L_requests_319 {ξ : xX} {M : xM} {k297 : Int32 → Int32 → Int32 → Int32 → Int32 → Int32 → Int32 → Option Int32} {i1 : Int32} {i2 : Int32} {i3 : Int32} {i4 : Int32} {i5 : Int32} {i6 : Int32} {i7 : Int32} {s0 : Int32} (hk297 : ∀ (j1 j2 j3 j4 j5 j6 j7 : Int32) (z : Int32), k297 j1 j2 j3 j4 j5 j6 j7 = some z → X ξ mL_requests 297 [.ref 0, .int j1, .int j2, .int j3, .int j4, .int j5, .int j6, .int j7] [] SH M 0 0 (xr (some (.int z)) SH M)) {z : Int32} (h : f_L_requests_319 M k297 i1 i2 i3 i4 i5 i6 i7 s0 = some z) : X ξ mL_requests 319 [.ref 0, .int i1, .int i2, .int i3, .int i4, .int i5, .int i6, .int i7] [.int s0] SH M 0 0 (xr (some (.int z)) SH M) := by
  rw [f_L_requests_319] at h
  refine X_istoreL (fun v43 => [.ref 0, .int i1, .int i2, .int i3, .int i4, .int i5, .int i6, .int i7, .int v43]) dL_requests_319 (Nat.le_of_ble_eq_true rfl) (Nat.le_of_ble_eq_true rfl) (xcat1_of rfl) h (fun _ => rfl) (fun v43 h => ?_)
  refine X_iload (x := i6) dL_requests_321 rfl ?_
  refine X_aload_n (x := 0) dL_requests_323 rfl ?_
  refine X_iload (x := i7) dL_requests_324 rfl ?_
  refine X_bipush 9 dL_requests_326 rfl ?_
  refine X_vP (μ' := mX8_requested) [.int i7, .int 9] [.int i6] kL_RL_18 kM_X8_requested rv_0 rfl rfl rfl dL_requests_328 h (fun _ hv => x_X8_requested hv) (fun v44 h => ?_)
  refine X_iadd dL_requests_331 ?_
  refine X_istoreL (fun v45 => [.ref 0, .int i1, .int i2, .int i3, .int i4, .int i5, .int v45, .int i7, .int v43]) dL_requests_332 (Nat.le_of_ble_eq_true rfl) (Nat.le_of_ble_eq_true rfl) (xcat1_of rfl) h (fun _ => rfl) (fun v45 h => ?_)
  refine X_iload_n (x := i3) dL_requests_334 rfl ?_
  refine X_if_eq 404 dL_requests_335 (by decide) h (fun h => ?_) (fun h => ?_)
  · exact x_L_requests_404 hk297 h
  · refine X_iload (x := v43) dL_requests_338 rfl ?_
    refine X_if_eq 376 dL_requests_340 (by decide) h (fun h => ?_) (fun h => ?_)
    · refine X_aload_n (x := 0) dL_requests_376 rfl ?_
      refine X_iload (x := i7) dL_requests_377 rfl ?_
      refine X_bipush 8 dL_requests_379 rfl ?_
      refine X_vP (μ' := mX8_requested) [.int i7, .int 8] [] kL_RL_18 kM_X8_requested rv_0 rfl rfl rfl dL_requests_381 h (fun _ hv => x_X8_requested hv) (fun v46 h => ?_)
      refine X_bipush (-6) dL_requests_384 rfl ?_
      refine X_icmp_ne 404 dL_requests_386 (by decide) h (fun h => ?_) (fun h => ?_)
      · exact x_L_requests_404 hk297 h
      · refine X_aload_n (x := 0) dL_requests_389 rfl ?_
        refine X_iload (x := i7) dL_requests_390 rfl ?_
        refine X_bipush 9 dL_requests_392 rfl ?_
        refine X_vP (μ' := mX8_requested) [.int i7, .int 9] [] kL_RL_18 kM_X8_requested rv_0 rfl rfl rfl dL_requests_394 h (fun _ hv => x_X8_requested hv) (fun v47 h => ?_)
        refine X_if_ne 404 dL_requests_397 (by decide) h (fun h => ?_) (fun h => ?_)
        · exact x_L_requests_404 hk297 h
        · exact x_L_requests_400 hk297 h
    · refine X_aload_n (x := 0) dL_requests_343 rfl ?_
      refine X_aload_n (x := 0) dL_requests_344 rfl ?_
      refine X_iload (x := i7) dL_requests_345 rfl ?_
      refine X_bipush 8 dL_requests_347 rfl ?_
      refine X_vP (μ' := mX8_requested) [.int i7, .int 8] [.ref 0] kL_RL_18 kM_X8_requested rv_0 rfl rfl rfl dL_requests_349 h (fun _ hv => x_X8_requested hv) (fun v48 h => ?_)
      refine X_aload_n (x := 0) dL_requests_352 rfl ?_
      refine X_iload (x := i7) dL_requests_353 rfl ?_
      refine X_iconst 2 dL_requests_355 rfl ?_
      refine X_vP (μ' := mX8_requested) [.int i7, .int 2] [.int v48, .ref 0] kL_RL_18 kM_X8_requested rv_0 rfl rfl rfl dL_requests_356 h (fun _ hv => x_X8_requested hv) (fun v49 h => ?_)
      refine X_vP (μ' := mX8_quality) [.int v48, .int v49] [] kL_RL_28 kM_X8_quality rv_0 rfl rfl rfl dL_requests_359 h (fun _ hv => x_X8_quality hv) (fun v50 h => ?_)
      refine X_aload_n (x := 0) dL_requests_362 rfl ?_
      refine X_iload (x := i7) dL_requests_363 rfl ?_
      refine X_bipush 6 dL_requests_365 rfl ?_
      refine X_vP (μ' := mX8_requested) [.int i7, .int 6] [.int v50] kL_RL_18 kM_X8_requested rv_0 rfl rfl rfl dL_requests_367 h (fun _ hv => x_X8_requested hv) (fun v51 h => ?_)
      refine X_icmp_lt 404 dL_requests_370 (by decide) h (fun h => ?_) (fun h => ?_)
      · exact x_L_requests_404 hk297 h
      · refine X_goto 400 dL_requests_373 (by decide) ?_
        exact x_L_requests_400 hk297 h
def f_L_requests_297 (M : xM) : Nat → Int32 → Int32 → Int32 → Int32 → Int32 → Int32 → Int32 → Option Int32
  | 0, _, _, _, _, _, _, _ => none
  | fu + 1, i1, i2, i3, i4, i5, i6, i7 =>
    if i1 ≤ i7 then (
      if i3 = 0 then (
        some 0)
      else (
        if i4 = i5 then (
          if i5 = i6 then (
            some 1)
          else (
            some 0))
        else (
          some 0)))
    else (
      xb (f_X8_requested M i7 0) fun v52 =>
      if v52 = 1 then (
        f_L_requests_319 M (f_L_requests_297 M fu) i1 i2 i3 i4 i5 i6 i7 1)
      else (
        f_L_requests_319 M (f_L_requests_297 M fu) i1 i2 i3 i4 i5 i6 i7 0))
set_option maxHeartbeats 1000000 in
theorem x_L_requests_297 {ξ : xX} {M : xM} : ∀ (fu : Nat) (i1 i2 i3 i4 i5 i6 i7 : Int32) (z : Int32), f_L_requests_297 M fu i1 i2 i3 i4 i5 i6 i7 = some z → X ξ mL_requests 297 [.ref 0, .int i1, .int i2, .int i3, .int i4, .int i5, .int i6, .int i7] [] SH M 0 0 (xr (some (.int z)) SH M) := by
  intro fu
  induction fu with
  | zero => intro i1 i2 i3 i4 i5 i6 i7 z h; rw [f_L_requests_297] at h; cases h
  | succ fu ih =>
    intro i1 i2 i3 i4 i5 i6 i7 z h
    rw [f_L_requests_297] at h
    refine X_iload (x := i7) dL_requests_297 rfl ?_
    refine X_iload_n (x := i1) dL_requests_299 rfl ?_
    refine X_icmp_ge 412 dL_requests_300 (by decide) h (fun h => ?_) (fun h => ?_)
    · refine X_iload_n (x := i3) dL_requests_412 rfl ?_
      refine X_if_eq 434 dL_requests_413 (by decide) h (fun h => ?_) (fun h => ?_)
      · refine X_iconst 0 dL_requests_434 rfl ?_
        exact X_retLP (by decide) dL_requests_435 rfl (Nat.le_refl _) (Nat.le_refl _) h
      · refine X_iload (x := i4) dL_requests_416 rfl ?_
        refine X_iload (x := i5) dL_requests_418 rfl ?_
        refine X_icmp_ne 434 dL_requests_420 (by decide) h (fun h => ?_) (fun h => ?_)
        · refine X_iconst 0 dL_requests_434 rfl ?_
          exact X_retLP (by decide) dL_requests_435 rfl (Nat.le_refl _) (Nat.le_refl _) h
        · refine X_iload (x := i5) dL_requests_423 rfl ?_
          refine X_iload (x := i6) dL_requests_425 rfl ?_
          refine X_icmp_ne 434 dL_requests_427 (by decide) h (fun h => ?_) (fun h => ?_)
          · refine X_iconst 0 dL_requests_434 rfl ?_
            exact X_retLP (by decide) dL_requests_435 rfl (Nat.le_refl _) (Nat.le_refl _) h
          · refine X_iconst 1 dL_requests_430 rfl ?_
            refine X_goto 435 dL_requests_431 (by decide) ?_
            exact X_retLP (by decide) dL_requests_435 rfl (Nat.le_refl _) (Nat.le_refl _) h
    · refine X_aload_n (x := 0) dL_requests_303 rfl ?_
      refine X_iload (x := i7) dL_requests_304 rfl ?_
      refine X_iconst 0 dL_requests_306 rfl ?_
      refine X_vP (μ' := mX8_requested) [.int i7, .int 0] [] kL_RL_18 kM_X8_requested rv_0 rfl rfl rfl dL_requests_307 h (fun _ hv => x_X8_requested hv) (fun v52 h => ?_)
      refine X_iconst 1 dL_requests_310 rfl ?_
      refine X_icmp_ne 318 dL_requests_311 (by decide) h (fun h => ?_) (fun h => ?_)
      · refine X_iconst 0 dL_requests_318 rfl ?_
        exact x_L_requests_319 ih h
      · refine X_iconst 1 dL_requests_314 rfl ?_
        refine X_goto 319 dL_requests_315 (by decide) ?_
        exact x_L_requests_319 ih h
def f_L_requests_259 (M : xM) : Nat → Int32 → Int32 → Int32 → Int32 → Int32 → Int32 → Int32 → Option Int32
  | 0, _, _, _, _, _, _, _ => none
  | fu + 1, i1, i2, i3, i4, i5, i6, i7 =>
    if 8 ≤ i7 then (
      xl (0 : Int32) fun v53 =>
      f_L_requests_297 M xFU i1 i2 i3 i4 i5 i6 v53)
    else (
      xb (f_X8_income M i7) fun v54 =>
      xl (i4 + v54) fun v55 =>
      xb (f_X8_paid M i7) fun v56 =>
      xl (i5 + v56) fun v57 =>
      xl (i7 + 1) fun v58 =>
      (f_L_requests_259 M fu) i1 i2 i3 v55 v57 i6 v58)
set_option maxHeartbeats 1000000 in
theorem x_L_requests_259 {ξ : xX} {M : xM} : ∀ (fu : Nat) (i1 i2 i3 i4 i5 i6 i7 : Int32) (z : Int32), f_L_requests_259 M fu i1 i2 i3 i4 i5 i6 i7 = some z → X ξ mL_requests 259 [.ref 0, .int i1, .int i2, .int i3, .int i4, .int i5, .int i6, .int i7] [] SH M 0 0 (xr (some (.int z)) SH M) := by
  intro fu
  induction fu with
  | zero => intro i1 i2 i3 i4 i5 i6 i7 z h; rw [f_L_requests_259] at h; cases h
  | succ fu ih =>
    intro i1 i2 i3 i4 i5 i6 i7 z h
    rw [f_L_requests_259] at h
    refine X_iload (x := i7) dL_requests_259 rfl ?_
    refine X_bipush 8 dL_requests_261 rfl ?_
    refine X_icmp_ge 294 dL_requests_263 (by decide) h (fun h => ?_) (fun h => ?_)
    · refine X_iconst 0 dL_requests_294 rfl ?_
      refine X_istoreL (fun v53 => [.ref 0, .int i1, .int i2, .int i3, .int i4, .int i5, .int i6, .int v53]) dL_requests_295 (Nat.le_of_ble_eq_true rfl) (Nat.le_of_ble_eq_true rfl) (xcat1_of rfl) h (fun _ => rfl) (fun v53 h => ?_)
      exact x_L_requests_297 _ _ _ _ _ _ _ _ _ h
    · refine X_iload (x := i4) dL_requests_266 rfl ?_
      refine X_aload_n (x := 0) dL_requests_268 rfl ?_
      refine X_iload (x := i7) dL_requests_269 rfl ?_
      refine X_vP (μ' := mX8_income) [.int i7] [.int i4] kL_RL_22 kM_X8_income rv_0 rfl rfl rfl dL_requests_271 h (fun _ hv => x_X8_income hv) (fun v54 h => ?_)
      refine X_iadd dL_requests_274 ?_
      refine X_istoreL (fun v55 => [.ref 0, .int i1, .int i2, .int i3, .int v55, .int i5, .int i6, .int i7]) dL_requests_275 (Nat.le_of_ble_eq_true rfl) (Nat.le_of_ble_eq_true rfl) (xcat1_of rfl) h (fun _ => rfl) (fun v55 h => ?_)
      refine X_iload (x := i5) dL_requests_277 rfl ?_
      refine X_aload_n (x := 0) dL_requests_279 rfl ?_
      refine X_iload (x := i7) dL_requests_280 rfl ?_
      refine X_vP (μ' := mX8_paid) [.int i7] [.int i5] kL_RL_25 kM_X8_paid rv_0 rfl rfl rfl dL_requests_282 h (fun _ hv => x_X8_paid hv) (fun v56 h => ?_)
      refine X_iadd dL_requests_285 ?_
      refine X_istoreL (fun v57 => [.ref 0, .int i1, .int i2, .int i3, .int v55, .int v57, .int i6, .int i7]) dL_requests_286 (Nat.le_of_ble_eq_true rfl) (Nat.le_of_ble_eq_true rfl) (xcat1_of rfl) h (fun _ => rfl) (fun v57 h => ?_)
      refine X_iincL (x := i7) 1 (fun v58 => [.ref 0, .int i1, .int i2, .int i3, .int v55, .int v57, .int i6, .int v58]) dL_requests_288 rfl rfl (Nat.le_of_ble_eq_true rfl) (xcat1_of rfl) h (fun _ => rfl) (fun v58 h => ?_)
      refine X_goto 259 dL_requests_291 (by decide) ?_
      exact ih _ _ _ _ _ _ _ _ h
def f_L_requests_247 (M : xM) (i1 : Int32) (i2 : Int32) (i3 : Int32) (i4 : Int32) : Option Int32 :=
  xl (0 : Int32) fun v59 =>
  xl (0 : Int32) fun v60 =>
  xl (0 : Int32) fun v61 =>
  xl (0 : Int32) fun v62 =>
  f_L_requests_259 M xFU i1 i2 i3 v59 v60 v61 v62
set_option maxHeartbeats 1000000 in
theorem x_L_requests_247 {ξ : xX} {M : xM} {i1 : Int32} {i2 : Int32} {i3 : Int32} {i4 : Int32} {z : Int32} (h : f_L_requests_247 M i1 i2 i3 i4 = some z) : X ξ mL_requests 247 [.ref 0, .int i1, .int i2, .int i3, .int i4] [] SH M 0 0 (xr (some (.int z)) SH M) := by
  rw [f_L_requests_247] at h
  refine X_iconst 0 dL_requests_247 rfl ?_
  refine X_istoreL (fun v59 => [.ref 0, .int i1, .int i2, .int i3, .int v59]) dL_requests_248 (Nat.le_of_ble_eq_true rfl) (Nat.le_of_ble_eq_true rfl) (xcat1_of rfl) h (fun _ => rfl) (fun v59 h => ?_)
  refine X_iconst 0 dL_requests_250 rfl ?_
  refine X_istoreL (fun v60 => [.ref 0, .int i1, .int i2, .int i3, .int v59, .int v60]) dL_requests_251 (Nat.le_of_ble_eq_true rfl) (Nat.le_of_ble_eq_true rfl) (xcat1_of rfl) h (fun _ => rfl) (fun v60 h => ?_)
  refine X_iconst 0 dL_requests_253 rfl ?_
  refine X_istoreL (fun v61 => [.ref 0, .int i1, .int i2, .int i3, .int v59, .int v60, .int v61]) dL_requests_254 (Nat.le_of_ble_eq_true rfl) (Nat.le_of_ble_eq_true rfl) (xcat1_of rfl) h (fun _ => rfl) (fun v61 h => ?_)
  refine X_iconst 0 dL_requests_256 rfl ?_
  refine X_istoreL (fun v62 => [.ref 0, .int i1, .int i2, .int i3, .int v59, .int v60, .int v61, .int v62]) dL_requests_257 (Nat.le_of_ble_eq_true rfl) (Nat.le_of_ble_eq_true rfl) (xcat1_of rfl) h (fun _ => rfl) (fun v62 h => ?_)
  exact x_L_requests_259 _ _ _ _ _ _ _ _ _ h
def f_L_requests_69 (M : xM) : Nat → Int32 → Int32 → Int32 → Int32 → Option Int32
  | 0, _, _, _, _ => none
  | fu + 1, i1, i2, i3, i4 =>
    if i2 ≤ i4 then (
      f_L_requests_247 M i1 i2 i3 i4)
    else (
      if i3 = 0 then (
        f_L_requests_247 M i1 i2 i3 i4)
      else (
        xb (f_X8_next M i4) fun v63 =>
        xl v63 fun v64 =>
        if i4 ≤ 0 then (
          f_L_requests_105 M (f_L_requests_69 M fu) i1 i2 i3 i4 v64 v64)
        else (
          xb (f_X8_next M (i4 - 1)) fun v65 =>
          f_L_requests_105 M (f_L_requests_69 M fu) i1 i2 i3 i4 v64 v65)))
set_option maxHeartbeats 1000000 in
theorem x_L_requests_69 {ξ : xX} {M : xM} : ∀ (fu : Nat) (i1 i2 i3 i4 : Int32) (z : Int32), f_L_requests_69 M fu i1 i2 i3 i4 = some z → X ξ mL_requests 69 [.ref 0, .int i1, .int i2, .int i3, .int i4] [] SH M 0 0 (xr (some (.int z)) SH M) := by
  intro fu
  induction fu with
  | zero => intro i1 i2 i3 i4 z h; rw [f_L_requests_69] at h; cases h
  | succ fu ih =>
    intro i1 i2 i3 i4 z h
    rw [f_L_requests_69] at h
    refine X_iload (x := i4) dL_requests_69 rfl ?_
    refine X_iload_n (x := i2) dL_requests_71 rfl ?_
    refine X_icmp_ge 247 dL_requests_72 (by decide) h (fun h => ?_) (fun h => ?_)
    · exact x_L_requests_247 h
    · refine X_iload_n (x := i3) dL_requests_75 rfl ?_
      refine X_if_eq 247 dL_requests_76 (by decide) h (fun h => ?_) (fun h => ?_)
      · exact x_L_requests_247 h
      · refine X_aload_n (x := 0) dL_requests_79 rfl ?_
        refine X_iload (x := i4) dL_requests_80 rfl ?_
        refine X_vP (μ' := mX8_next) [.int i4] [] kL_RL_15 kM_X8_next rv_0 rfl rfl rfl dL_requests_82 h (fun _ hv => x_X8_next hv) (fun v63 h => ?_)
        refine X_istoreL (fun v64 => [.ref 0, .int i1, .int i2, .int i3, .int i4, .int v64]) dL_requests_85 (Nat.le_of_ble_eq_true rfl) (Nat.le_of_ble_eq_true rfl) (xcat1_of rfl) h (fun _ => rfl) (fun v64 h => ?_)
        refine X_iload (x := i4) dL_requests_87 rfl ?_
        refine X_if_le 103 dL_requests_89 (by decide) h (fun h => ?_) (fun h => ?_)
        · refine X_iload (x := v64) dL_requests_103 rfl ?_
          exact x_L_requests_105 ih h
        · refine X_aload_n (x := 0) dL_requests_92 rfl ?_
          refine X_iload (x := i4) dL_requests_93 rfl ?_
          refine X_iconst 1 dL_requests_95 rfl ?_
          refine X_isub dL_requests_96 ?_
          refine X_vP (μ' := mX8_next) [.int (i4 - 1)] [] kL_RL_15 kM_X8_next rv_0 rfl rfl rfl dL_requests_97 h (fun _ hv => x_X8_next hv) (fun v65 h => ?_)
          refine X_goto 105 dL_requests_100 (by decide) ?_
          exact x_L_requests_105 ih h
def f_L_requests_65 (M : xM) (i1 : Int32) (i2 : Int32) (s0 : Int32) : Option Int32 :=
  xl s0 fun v66 =>
  xl (0 : Int32) fun v67 =>
  f_L_requests_69 M xFU i1 i2 v66 v67
set_option maxHeartbeats 1000000 in
theorem x_L_requests_65 {ξ : xX} {M : xM} {i1 : Int32} {i2 : Int32} {s0 : Int32} {z : Int32} (h : f_L_requests_65 M i1 i2 s0 = some z) : X ξ mL_requests 65 [.ref 0, .int i1, .int i2] [.int s0] SH M 0 0 (xr (some (.int z)) SH M) := by
  rw [f_L_requests_65] at h
  refine X_istoreL_n (fun v66 => [.ref 0, .int i1, .int i2, .int v66]) dL_requests_65 (Nat.le_of_ble_eq_true rfl) (Nat.le_of_ble_eq_true rfl) (xcat1_of rfl) h (fun _ => rfl) (fun v66 h => ?_)
  refine X_iconst 0 dL_requests_66 rfl ?_
  refine X_istoreL (fun v67 => [.ref 0, .int i1, .int i2, .int v66, .int v67]) dL_requests_67 (Nat.le_of_ble_eq_true rfl) (Nat.le_of_ble_eq_true rfl) (xcat1_of rfl) h (fun _ => rfl) (fun v67 h => ?_)
  exact x_L_requests_69 _ _ _ _ _ _ h
def f_L_requests_64 (M : xM) (i1 : Int32) (i2 : Int32) : Option Int32 :=
  f_L_requests_65 M i1 i2 0
set_option maxHeartbeats 1000000 in
theorem x_L_requests_64 {ξ : xX} {M : xM} {i1 : Int32} {i2 : Int32} {z : Int32} (h : f_L_requests_64 M i1 i2 = some z) : X ξ mL_requests 64 [.ref 0, .int i1, .int i2] [] SH M 0 0 (xr (some (.int z)) SH M) := by
  rw [f_L_requests_64] at h
  refine X_iconst 0 dL_requests_64 rfl ?_
  exact x_L_requests_65 h
def f_L_requests (M : xM) : Option Int32 :=
  xb (f_X8_total M 6) fun v68 =>
  xl v68 fun v69 =>
  xb (f_X8_total M 7) fun v70 =>
  xl v70 fun v71 =>
  xb (f_X8_total M 8) fun v72 =>
  xb (f_X8_total M 9) fun v73 =>
  xb (f_X8_total M 10) fun v74 =>
  if (((v71 + v72) + v73) + v74) = v69 then (
    xb (f_X8_next M v71) fun v75 =>
    if v75 = (-6) then (
      xb (f_X8_next M (-1)) fun v76 =>
      if v76 = (-2) then (
        f_L_requests_65 M v69 v71 1)
      else (
        f_L_requests_64 M v69 v71))
    else (
      f_L_requests_64 M v69 v71))
  else (
    f_L_requests_64 M v69 v71)
set_option maxHeartbeats 1000000 in
theorem x_L_requests {ξ : xX} {M : xM} {z : Int32} (h : f_L_requests M = some z) : X ξ mL_requests 0 [.ref 0] [] SH M 0 0 (xr (some (.int z)) SH M) := by
  rw [f_L_requests] at h
  refine X_aload_n (x := 0) dL_requests_0 rfl ?_
  refine X_bipush 6 dL_requests_1 rfl ?_
  refine X_vP (μ' := mX8_total) [.int 6] [] kL_RL_9 kM_X8_total rv_0 rfl rfl rfl dL_requests_3 h (fun _ hv => x_X8_total hv) (fun v68 h => ?_)
  refine X_istoreL_n (fun v69 => [.ref 0, .int v69]) dL_requests_6 (Nat.le_of_ble_eq_true rfl) (Nat.le_of_ble_eq_true rfl) (xcat1_of rfl) h (fun _ => rfl) (fun v69 h => ?_)
  refine X_aload_n (x := 0) dL_requests_7 rfl ?_
  refine X_bipush 7 dL_requests_8 rfl ?_
  refine X_vP (μ' := mX8_total) [.int 7] [] kL_RL_9 kM_X8_total rv_0 rfl rfl rfl dL_requests_10 h (fun _ hv => x_X8_total hv) (fun v70 h => ?_)
  refine X_istoreL_n (fun v71 => [.ref 0, .int v69, .int v71]) dL_requests_13 (Nat.le_of_ble_eq_true rfl) (Nat.le_of_ble_eq_true rfl) (xcat1_of rfl) h (fun _ => rfl) (fun v71 h => ?_)
  refine X_iload_n (x := v71) dL_requests_14 rfl ?_
  refine X_aload_n (x := 0) dL_requests_15 rfl ?_
  refine X_bipush 8 dL_requests_16 rfl ?_
  refine X_vP (μ' := mX8_total) [.int 8] [.int v71] kL_RL_9 kM_X8_total rv_0 rfl rfl rfl dL_requests_18 h (fun _ hv => x_X8_total hv) (fun v72 h => ?_)
  refine X_iadd dL_requests_21 ?_
  refine X_aload_n (x := 0) dL_requests_22 rfl ?_
  refine X_bipush 9 dL_requests_23 rfl ?_
  refine X_vP (μ' := mX8_total) [.int 9] [.int (v71 + v72)] kL_RL_9 kM_X8_total rv_0 rfl rfl rfl dL_requests_25 h (fun _ hv => x_X8_total hv) (fun v73 h => ?_)
  refine X_iadd dL_requests_28 ?_
  refine X_aload_n (x := 0) dL_requests_29 rfl ?_
  refine X_bipush 10 dL_requests_30 rfl ?_
  refine X_vP (μ' := mX8_total) [.int 10] [.int ((v71 + v72) + v73)] kL_RL_9 kM_X8_total rv_0 rfl rfl rfl dL_requests_32 h (fun _ hv => x_X8_total hv) (fun v74 h => ?_)
  refine X_iadd dL_requests_35 ?_
  refine X_iload_n (x := v69) dL_requests_36 rfl ?_
  refine X_icmp_ne 64 dL_requests_37 (by decide) h (fun h => ?_) (fun h => ?_)
  · exact x_L_requests_64 h
  · refine X_aload_n (x := 0) dL_requests_40 rfl ?_
    refine X_iload_n (x := v71) dL_requests_41 rfl ?_
    refine X_vP (μ' := mX8_next) [.int v71] [] kL_RL_15 kM_X8_next rv_0 rfl rfl rfl dL_requests_42 h (fun _ hv => x_X8_next hv) (fun v75 h => ?_)
    refine X_bipush (-6) dL_requests_45 rfl ?_
    refine X_icmp_ne 64 dL_requests_47 (by decide) h (fun h => ?_) (fun h => ?_)
    · exact x_L_requests_64 h
    · refine X_aload_n (x := 0) dL_requests_50 rfl ?_
      refine X_iconst (-1) dL_requests_51 rfl ?_
      refine X_vP (μ' := mX8_next) [.int (-1)] [] kL_RL_15 kM_X8_next rv_0 rfl rfl rfl dL_requests_52 h (fun _ hv => x_X8_next hv) (fun v76 h => ?_)
      refine X_bipush (-2) dL_requests_55 rfl ?_
      refine X_icmp_ne 64 dL_requests_57 (by decide) h (fun h => ?_) (fun h => ?_)
      · exact x_L_requests_64 h
      · refine X_iconst 1 dL_requests_60 rfl ?_
        refine X_goto 65 dL_requests_61 (by decide) ?_
        exact x_L_requests_65 h
def f_L_passes_56 (M : xM) (k16 : Int32 → Int32 → Int32 → Int32 → Int32 → Option Int32) (i1 : Int32) (i2 : Int32) (i3 : Int32) (i4 : Int32) (i5 : Int32) (s0 : Int32) : Option Int32 :=
  xl s0 fun v24 =>
  xl (i5 + 1) fun v25 =>
  k16 i1 i2 i3 v24 v25
set_option maxHeartbeats 1000000 in
theorem x_L_passes_56 {ξ : xX} {M : xM} {k16 : Int32 → Int32 → Int32 → Int32 → Int32 → Option Int32} {i1 : Int32} {i2 : Int32} {i3 : Int32} {i4 : Int32} {i5 : Int32} {s0 : Int32} (hk16 : ∀ (j1 j2 j3 j4 j5 : Int32) (z : Int32), k16 j1 j2 j3 j4 j5 = some z → X ξ mL_passes 16 [.ref 0, .int j1, .int j2, .int j3, .int j4, .int j5] [] SH M 0 0 (xr (some (.int z)) SH M)) {z : Int32} (h : f_L_passes_56 M k16 i1 i2 i3 i4 i5 s0 = some z) : X ξ mL_passes 56 [.ref 0, .int i1, .int i2, .int i3, .int i4, .int i5] [.int s0] SH M 0 0 (xr (some (.int z)) SH M) := by
  rw [f_L_passes_56] at h
  refine X_istoreL (fun v24 => [.ref 0, .int i1, .int i2, .int i3, .int v24, .int i5]) dL_passes_56 (Nat.le_of_ble_eq_true rfl) (Nat.le_of_ble_eq_true rfl) (xcat1_of rfl) h (fun _ => rfl) (fun v24 h => ?_)
  refine X_iincL (x := i5) 1 (fun v25 => [.ref 0, .int i1, .int i2, .int i3, .int v24, .int v25]) dL_passes_58 rfl rfl (Nat.le_of_ble_eq_true rfl) (xcat1_of rfl) h (fun _ => rfl) (fun v25 h => ?_)
  refine X_goto 16 dL_passes_61 (by decide) ?_
  exact hk16 _ _ _ _ _ _ h
def f_L_passes_55 (M : xM) (k16 : Int32 → Int32 → Int32 → Int32 → Int32 → Option Int32) (i1 : Int32) (i2 : Int32) (i3 : Int32) (i4 : Int32) (i5 : Int32) : Option Int32 :=
  f_L_passes_56 M k16 i1 i2 i3 i4 i5 0
set_option maxHeartbeats 1000000 in
theorem x_L_passes_55 {ξ : xX} {M : xM} {k16 : Int32 → Int32 → Int32 → Int32 → Int32 → Option Int32} {i1 : Int32} {i2 : Int32} {i3 : Int32} {i4 : Int32} {i5 : Int32} (hk16 : ∀ (j1 j2 j3 j4 j5 : Int32) (z : Int32), k16 j1 j2 j3 j4 j5 = some z → X ξ mL_passes 16 [.ref 0, .int j1, .int j2, .int j3, .int j4, .int j5] [] SH M 0 0 (xr (some (.int z)) SH M)) {z : Int32} (h : f_L_passes_55 M k16 i1 i2 i3 i4 i5 = some z) : X ξ mL_passes 55 [.ref 0, .int i1, .int i2, .int i3, .int i4, .int i5] [] SH M 0 0 (xr (some (.int z)) SH M) := by
  rw [f_L_passes_55] at h
  refine X_iconst 0 dL_passes_55 rfl ?_
  exact x_L_passes_56 hk16 h
def f_L_passes_152 (M : xM) (k67 : Int32 → Int32 → Int32 → Int32 → Int32 → Option Int32) (k95 : Int32 → Int32 → Int32 → Int32 → Int32 → Int32 → Int32 → Option Int32) (i1 : Int32) (i2 : Int32) (i3 : Int32) (i4 : Int32) (i5 : Int32) (i6 : Int32) (i7 : Int32) (s0 : Int32) (s1 : Int32) : Option Int32 :=
  xl (s0 - s1) fun v26 =>
  xl (i7 + 1) fun v27 =>
  k95 i1 i2 i3 i4 i5 v26 v27
set_option maxHeartbeats 1000000 in
theorem x_L_passes_152 {ξ : xX} {M : xM} {k67 : Int32 → Int32 → Int32 → Int32 → Int32 → Option Int32} {k95 : Int32 → Int32 → Int32 → Int32 → Int32 → Int32 → Int32 → Option Int32} {i1 : Int32} {i2 : Int32} {i3 : Int32} {i4 : Int32} {i5 : Int32} {i6 : Int32} {i7 : Int32} {s0 : Int32} {s1 : Int32} (hk67 : ∀ (j1 j2 j3 j4 j5 : Int32) (z : Int32), k67 j1 j2 j3 j4 j5 = some z → X ξ mL_passes 67 [.ref 0, .int j1, .int j2, .int j3, .int j4, .int j5] [] SH M 0 0 (xr (some (.int z)) SH M)) (hk95 : ∀ (j1 j2 j3 j4 j5 j6 j7 : Int32) (z : Int32), k95 j1 j2 j3 j4 j5 j6 j7 = some z → X ξ mL_passes 95 [.ref 0, .int j1, .int j2, .int j3, .int j4, .int j5, .int j6, .int j7] [] SH M 0 0 (xr (some (.int z)) SH M)) {z : Int32} (h : f_L_passes_152 M k67 k95 i1 i2 i3 i4 i5 i6 i7 s0 s1 = some z) : X ξ mL_passes 152 [.ref 0, .int i1, .int i2, .int i3, .int i4, .int i5, .int i6, .int i7] [.int s1, .int s0] SH M 0 0 (xr (some (.int z)) SH M) := by
  rw [f_L_passes_152] at h
  refine X_isub dL_passes_152 ?_
  refine X_istoreL (fun v26 => [.ref 0, .int i1, .int i2, .int i3, .int i4, .int i5, .int v26, .int i7]) dL_passes_153 (Nat.le_of_ble_eq_true rfl) (Nat.le_of_ble_eq_true rfl) (xcat1_of rfl) h (fun _ => rfl) (fun v26 h => ?_)
  refine X_iincL (x := i7) 1 (fun v27 => [.ref 0, .int i1, .int i2, .int i3, .int i4, .int i5, .int v26, .int v27]) dL_passes_155 rfl rfl (Nat.le_of_ble_eq_true rfl) (xcat1_of rfl) h (fun _ => rfl) (fun v27 h => ?_)
  refine X_goto 95 dL_passes_158 (by decide) ?_
  exact hk95 _ _ _ _ _ _ _ _ h
def f_L_passes_151 (M : xM) (k67 : Int32 → Int32 → Int32 → Int32 → Int32 → Option Int32) (k95 : Int32 → Int32 → Int32 → Int32 → Int32 → Int32 → Int32 → Option Int32) (i1 : Int32) (i2 : Int32) (i3 : Int32) (i4 : Int32) (i5 : Int32) (i6 : Int32) (i7 : Int32) (s0 : Int32) : Option Int32 :=
  f_L_passes_152 M k67 k95 i1 i2 i3 i4 i5 i6 i7 s0 0
set_option maxHeartbeats 1000000 in
theorem x_L_passes_151 {ξ : xX} {M : xM} {k67 : Int32 → Int32 → Int32 → Int32 → Int32 → Option Int32} {k95 : Int32 → Int32 → Int32 → Int32 → Int32 → Int32 → Int32 → Option Int32} {i1 : Int32} {i2 : Int32} {i3 : Int32} {i4 : Int32} {i5 : Int32} {i6 : Int32} {i7 : Int32} {s0 : Int32} (hk67 : ∀ (j1 j2 j3 j4 j5 : Int32) (z : Int32), k67 j1 j2 j3 j4 j5 = some z → X ξ mL_passes 67 [.ref 0, .int j1, .int j2, .int j3, .int j4, .int j5] [] SH M 0 0 (xr (some (.int z)) SH M)) (hk95 : ∀ (j1 j2 j3 j4 j5 j6 j7 : Int32) (z : Int32), k95 j1 j2 j3 j4 j5 j6 j7 = some z → X ξ mL_passes 95 [.ref 0, .int j1, .int j2, .int j3, .int j4, .int j5, .int j6, .int j7] [] SH M 0 0 (xr (some (.int z)) SH M)) {z : Int32} (h : f_L_passes_151 M k67 k95 i1 i2 i3 i4 i5 i6 i7 s0 = some z) : X ξ mL_passes 151 [.ref 0, .int i1, .int i2, .int i3, .int i4, .int i5, .int i6, .int i7] [.int s0] SH M 0 0 (xr (some (.int z)) SH M) := by
  rw [f_L_passes_151] at h
  refine X_iconst 0 dL_passes_151 rfl ?_
  exact x_L_passes_152 hk67 hk95 h
def f_L_passes_188 (M : xM) (k67 : Int32 → Int32 → Int32 → Int32 → Int32 → Option Int32) (i1 : Int32) (i2 : Int32) (i3 : Int32) (i4 : Int32) (i5 : Int32) (i6 : Int32) (i7 : Int32) (s0 : Int32) : Option Int32 :=
  xl s0 fun v28 =>
  xl (i5 + 1) fun v29 =>
  k67 i1 i2 i3 v28 v29
set_option maxHeartbeats 1000000 in
theorem x_L_passes_188 {ξ : xX} {M : xM} {k67 : Int32 → Int32 → Int32 → Int32 → Int32 → Option Int32} {i1 : Int32} {i2 : Int32} {i3 : Int32} {i4 : Int32} {i5 : Int32} {i6 : Int32} {i7 : Int32} {s0 : Int32} (hk67 : ∀ (j1 j2 j3 j4 j5 : Int32) (z : Int32), k67 j1 j2 j3 j4 j5 = some z → X ξ mL_passes 67 [.ref 0, .int j1, .int j2, .int j3, .int j4, .int j5] [] SH M 0 0 (xr (some (.int z)) SH M)) {z : Int32} (h : f_L_passes_188 M k67 i1 i2 i3 i4 i5 i6 i7 s0 = some z) : X ξ mL_passes 188 [.ref 0, .int i1, .int i2, .int i3, .int i4, .int i5, .int i6, .int i7] [.int s0] SH M 0 0 (xr (some (.int z)) SH M) := by
  rw [f_L_passes_188] at h
  refine X_istoreL (fun v28 => [.ref 0, .int i1, .int i2, .int i3, .int v28, .int i5, .int i6, .int i7]) dL_passes_188 (Nat.le_of_ble_eq_true rfl) (Nat.le_of_ble_eq_true rfl) (xcat1_of rfl) h (fun _ => rfl) (fun v28 h => ?_)
  refine X_iincL (x := i5) 1 (fun v29 => [.ref 0, .int i1, .int i2, .int i3, .int v28, .int v29, .int i6, .int i7]) dL_passes_190 rfl rfl (Nat.le_of_ble_eq_true rfl) (xcat1_of rfl) h (fun _ => rfl) (fun v29 h => ?_)
  refine X_goto 67 dL_passes_193 (by decide) ?_
  refine X_cut 6 ?_
  exact hk67 _ _ _ _ _ _ h
def f_L_passes_187 (M : xM) (k67 : Int32 → Int32 → Int32 → Int32 → Int32 → Option Int32) (i1 : Int32) (i2 : Int32) (i3 : Int32) (i4 : Int32) (i5 : Int32) (i6 : Int32) (i7 : Int32) : Option Int32 :=
  f_L_passes_188 M k67 i1 i2 i3 i4 i5 i6 i7 0
set_option maxHeartbeats 1000000 in
theorem x_L_passes_187 {ξ : xX} {M : xM} {k67 : Int32 → Int32 → Int32 → Int32 → Int32 → Option Int32} {i1 : Int32} {i2 : Int32} {i3 : Int32} {i4 : Int32} {i5 : Int32} {i6 : Int32} {i7 : Int32} (hk67 : ∀ (j1 j2 j3 j4 j5 : Int32) (z : Int32), k67 j1 j2 j3 j4 j5 = some z → X ξ mL_passes 67 [.ref 0, .int j1, .int j2, .int j3, .int j4, .int j5] [] SH M 0 0 (xr (some (.int z)) SH M)) {z : Int32} (h : f_L_passes_187 M k67 i1 i2 i3 i4 i5 i6 i7 = some z) : X ξ mL_passes 187 [.ref 0, .int i1, .int i2, .int i3, .int i4, .int i5, .int i6, .int i7] [] SH M 0 0 (xr (some (.int z)) SH M) := by
  rw [f_L_passes_187] at h
  refine X_iconst 0 dL_passes_187 rfl ?_
  exact x_L_passes_188 hk67 h
def f_L_passes_95 (M : xM) (k67 : Int32 → Int32 → Int32 → Int32 → Int32 → Option Int32) : Nat → Int32 → Int32 → Int32 → Int32 → Int32 → Int32 → Int32 → Option Int32
  | 0, _, _, _, _, _, _, _ => none
  | fu + 1, i1, i2, i3, i4, i5, i6, i7 =>
    if i1 ≤ i7 then (
      if i4 = 0 then (
        f_L_passes_187 M k67 i1 i2 i3 i4 i5 i6 i7)
      else (
        xb (f_X8_machine M i5 4) fun v30 =>
        if v30 = i6 then (
          if i6 < 0 then (
            f_L_passes_187 M k67 i1 i2 i3 i4 i5 i6 i7)
          else (
            f_L_passes_188 M k67 i1 i2 i3 i4 i5 i6 i7 1))
        else (
          f_L_passes_187 M k67 i1 i2 i3 i4 i5 i6 i7)))
    else (
      xb (f_X8_pass M i7 1) fun v31 =>
      if v31 = i5 then (
        xb (f_X8_pass M i7 4) fun v32 =>
        xb (f_X8_total M 0) fun v33 =>
        if v32 = v33 then (
          xb (f_X8_pass M i7 0) fun v34 =>
          xb (f_X8_pass M i7 2) fun v35 =>
          xb (f_X8_duration M v34 v35) fun v36 =>
          f_L_passes_152 M k67 (f_L_passes_95 M k67 fu) i1 i2 i3 i4 i5 i6 i7 i6 v36)
        else (
          f_L_passes_151 M k67 (f_L_passes_95 M k67 fu) i1 i2 i3 i4 i5 i6 i7 i6))
      else (
        f_L_passes_151 M k67 (f_L_passes_95 M k67 fu) i1 i2 i3 i4 i5 i6 i7 i6))
set_option maxHeartbeats 1000000 in
theorem x_L_passes_95 {ξ : xX} {M : xM} {k67 : Int32 → Int32 → Int32 → Int32 → Int32 → Option Int32} (hk67 : ∀ (j1 j2 j3 j4 j5 : Int32) (z : Int32), k67 j1 j2 j3 j4 j5 = some z → X ξ mL_passes 67 [.ref 0, .int j1, .int j2, .int j3, .int j4, .int j5] [] SH M 0 0 (xr (some (.int z)) SH M)) : ∀ (fu : Nat) (i1 i2 i3 i4 i5 i6 i7 : Int32) (z : Int32), f_L_passes_95 M k67 fu i1 i2 i3 i4 i5 i6 i7 = some z → X ξ mL_passes 95 [.ref 0, .int i1, .int i2, .int i3, .int i4, .int i5, .int i6, .int i7] [] SH M 0 0 (xr (some (.int z)) SH M) := by
  intro fu
  induction fu with
  | zero => intro i1 i2 i3 i4 i5 i6 i7 z h; rw [f_L_passes_95] at h; cases h
  | succ fu ih =>
    intro i1 i2 i3 i4 i5 i6 i7 z h
    rw [f_L_passes_95] at h
    refine X_iload (x := i7) dL_passes_95 rfl ?_
    refine X_iload_n (x := i1) dL_passes_97 rfl ?_
    refine X_icmp_ge 161 dL_passes_98 (by decide) h (fun h => ?_) (fun h => ?_)
    · refine X_iload (x := i4) dL_passes_161 rfl ?_
      refine X_if_eq 187 dL_passes_163 (by decide) h (fun h => ?_) (fun h => ?_)
      · exact x_L_passes_187 hk67 h
      · refine X_aload_n (x := 0) dL_passes_166 rfl ?_
        refine X_iload (x := i5) dL_passes_167 rfl ?_
        refine X_iconst 4 dL_passes_169 rfl ?_
        refine X_vP (μ' := mX8_machine) [.int i5, .int 4] [] kL_RL_34 kM_X8_machine rv_0 rfl rfl rfl dL_passes_170 h (fun _ hv => x_X8_machine hv) (fun v30 h => ?_)
        refine X_iload (x := i6) dL_passes_173 rfl ?_
        refine X_icmp_ne 187 dL_passes_175 (by decide) h (fun h => ?_) (fun h => ?_)
        · exact x_L_passes_187 hk67 h
        · refine X_iload (x := i6) dL_passes_178 rfl ?_
          refine X_if_lt 187 dL_passes_180 (by decide) h (fun h => ?_) (fun h => ?_)
          · exact x_L_passes_187 hk67 h
          · refine X_iconst 1 dL_passes_183 rfl ?_
            refine X_goto 188 dL_passes_184 (by decide) ?_
            exact x_L_passes_188 hk67 h
    · refine X_iload (x := i6) dL_passes_101 rfl ?_
      refine X_aload_n (x := 0) dL_passes_103 rfl ?_
      refine X_iload (x := i7) dL_passes_104 rfl ?_
      refine X_iconst 1 dL_passes_106 rfl ?_
      refine X_vP (μ' := mX8_pass) [.int i7, .int 1] [.int i6] kL_RL_37 kM_X8_pass rv_0 rfl rfl rfl dL_passes_107 h (fun _ hv => x_X8_pass hv) (fun v31 h => ?_)
      refine X_iload (x := i5) dL_passes_110 rfl ?_
      refine X_icmp_ne 151 dL_passes_112 (by decide) h (fun h => ?_) (fun h => ?_)
      · exact x_L_passes_151 hk67 ih h
      · refine X_aload_n (x := 0) dL_passes_115 rfl ?_
        refine X_iload (x := i7) dL_passes_116 rfl ?_
        refine X_iconst 4 dL_passes_118 rfl ?_
        refine X_vP (μ' := mX8_pass) [.int i7, .int 4] [.int i6] kL_RL_37 kM_X8_pass rv_0 rfl rfl rfl dL_passes_119 h (fun _ hv => x_X8_pass hv) (fun v32 h => ?_)
        refine X_aload_n (x := 0) dL_passes_122 rfl ?_
        refine X_iconst 0 dL_passes_123 rfl ?_
        refine X_vP (μ' := mX8_total) [.int 0] [.int v32, .int i6] kL_RL_9 kM_X8_total rv_0 rfl rfl rfl dL_passes_124 h (fun _ hv => x_X8_total hv) (fun v33 h => ?_)
        refine X_icmp_ne 151 dL_passes_127 (by decide) h (fun h => ?_) (fun h => ?_)
        · exact x_L_passes_151 hk67 ih h
        · refine X_aload_n (x := 0) dL_passes_130 rfl ?_
          refine X_aload_n (x := 0) dL_passes_131 rfl ?_
          refine X_iload (x := i7) dL_passes_132 rfl ?_
          refine X_iconst 0 dL_passes_134 rfl ?_
          refine X_vP (μ' := mX8_pass) [.int i7, .int 0] [.ref 0, .int i6] kL_RL_37 kM_X8_pass rv_0 rfl rfl rfl dL_passes_135 h (fun _ hv => x_X8_pass hv) (fun v34 h => ?_)
          refine X_aload_n (x := 0) dL_passes_138 rfl ?_
          refine X_iload (x := i7) dL_passes_139 rfl ?_
          refine X_iconst 2 dL_passes_141 rfl ?_
          refine X_vP (μ' := mX8_pass) [.int i7, .int 2] [.int v34, .ref 0, .int i6] kL_RL_37 kM_X8_pass rv_0 rfl rfl rfl dL_passes_142 h (fun _ hv => x_X8_pass hv) (fun v35 h => ?_)
          refine X_vP (μ' := mX8_duration) [.int v34, .int v35] [.int i6] kL_RL_40 kM_X8_duration rv_0 rfl rfl rfl dL_passes_145 h (fun _ hv => x_X8_duration hv) (fun v36 h => ?_)
          refine X_goto 152 dL_passes_148 (by decide) ?_
          exact x_L_passes_152 hk67 ih h
def f_L_passes_331 (M : xM) (k199 : Int32 → Int32 → Int32 → Int32 → Int32 → Option Int32) (k250 : Int32 → Int32 → Int32 → Int32 → Int32 → Int32 → Int32 → Option Int32) (i1 : Int32) (i2 : Int32) (i3 : Int32) (i4 : Int32) (i5 : Int32) (i6 : Int32) (i7 : Int32) (s0 : Int32) : Option Int32 :=
  xl s0 fun v37 =>
  xl (i7 + 1) fun v38 =>
  k250 i1 i2 i3 v37 i5 i6 v38
set_option maxHeartbeats 1000000 in
theorem x_L_passes_331 {ξ : xX} {M : xM} {k199 : Int32 → Int32 → Int32 → Int32 → Int32 → Option Int32} {k250 : Int32 → Int32 → Int32 → Int32 → Int32 → Int32 → Int32 → Option Int32} {i1 : Int32} {i2 : Int32} {i3 : Int32} {i4 : Int32} {i5 : Int32} {i6 : Int32} {i7 : Int32} {s0 : Int32} (hk199 : ∀ (j1 j2 j3 j4 j5 : Int32) (z : Int32), k199 j1 j2 j3 j4 j5 = some z → X ξ mL_passes 199 [.ref 0, .int j1, .int j2, .int j3, .int j4, .int j5] [] SH M 0 0 (xr (some (.int z)) SH M)) (hk250 : ∀ (j1 j2 j3 j4 j5 j6 j7 : Int32) (z : Int32), k250 j1 j2 j3 j4 j5 j6 j7 = some z → X ξ mL_passes 250 [.ref 0, .int j1, .int j2, .int j3, .int j4, .int j5, .int j6, .int j7] [] SH M 0 0 (xr (some (.int z)) SH M)) {z : Int32} (h : f_L_passes_331 M k199 k250 i1 i2 i3 i4 i5 i6 i7 s0 = some z) : X ξ mL_passes 331 [.ref 0, .int i1, .int i2, .int i3, .int i4, .int i5, .int i6, .int i7] [.int s0] SH M 0 0 (xr (some (.int z)) SH M) := by
  rw [f_L_passes_331] at h
  refine X_istoreL (fun v37 => [.ref 0, .int i1, .int i2, .int i3, .int v37, .int i5, .int i6, .int i7]) dL_passes_331 (Nat.le_of_ble_eq_true rfl) (Nat.le_of_ble_eq_true rfl) (xcat1_of rfl) h (fun _ => rfl) (fun v37 h => ?_)
  refine X_iincL (x := i7) 1 (fun v38 => [.ref 0, .int i1, .int i2, .int i3, .int v37, .int i5, .int i6, .int v38]) dL_passes_333 rfl rfl (Nat.le_of_ble_eq_true rfl) (xcat1_of rfl) h (fun _ => rfl) (fun v38 h => ?_)
  refine X_goto 250 dL_passes_336 (by decide) ?_
  exact hk250 _ _ _ _ _ _ _ _ h
def f_L_passes_323 (M : xM) (k199 : Int32 → Int32 → Int32 → Int32 → Int32 → Option Int32) (k250 : Int32 → Int32 → Int32 → Int32 → Int32 → Int32 → Int32 → Option Int32) (i1 : Int32) (i2 : Int32) (i3 : Int32) (i4 : Int32) (i5 : Int32) (i6 : Int32) (i7 : Int32) (s0 : Int32) (s1 : Int32) : Option Int32 :=
  if s0 = s1 then (
    f_L_passes_331 M k199 k250 i1 i2 i3 i4 i5 i6 i7 1)
  else (
    f_L_passes_331 M k199 k250 i1 i2 i3 i4 i5 i6 i7 0)
set_option maxHeartbeats 1000000 in
theorem x_L_passes_323 {ξ : xX} {M : xM} {k199 : Int32 → Int32 → Int32 → Int32 → Int32 → Option Int32} {k250 : Int32 → Int32 → Int32 → Int32 → Int32 → Int32 → Int32 → Option Int32} {i1 : Int32} {i2 : Int32} {i3 : Int32} {i4 : Int32} {i5 : Int32} {i6 : Int32} {i7 : Int32} {s0 : Int32} {s1 : Int32} (hk199 : ∀ (j1 j2 j3 j4 j5 : Int32) (z : Int32), k199 j1 j2 j3 j4 j5 = some z → X ξ mL_passes 199 [.ref 0, .int j1, .int j2, .int j3, .int j4, .int j5] [] SH M 0 0 (xr (some (.int z)) SH M)) (hk250 : ∀ (j1 j2 j3 j4 j5 j6 j7 : Int32) (z : Int32), k250 j1 j2 j3 j4 j5 j6 j7 = some z → X ξ mL_passes 250 [.ref 0, .int j1, .int j2, .int j3, .int j4, .int j5, .int j6, .int j7] [] SH M 0 0 (xr (some (.int z)) SH M)) {z : Int32} (h : f_L_passes_323 M k199 k250 i1 i2 i3 i4 i5 i6 i7 s0 s1 = some z) : X ξ mL_passes 323 [.ref 0, .int i1, .int i2, .int i3, .int i4, .int i5, .int i6, .int i7] [.int s1, .int s0] SH M 0 0 (xr (some (.int z)) SH M) := by
  rw [f_L_passes_323] at h
  refine X_icmp_ne 330 dL_passes_323 (by decide) h (fun h => ?_) (fun h => ?_)
  · refine X_iconst 0 dL_passes_330 rfl ?_
    exact x_L_passes_331 hk199 hk250 h
  · refine X_iconst 1 dL_passes_326 rfl ?_
    refine X_goto 331 dL_passes_327 (by decide) ?_
    exact x_L_passes_331 hk199 hk250 h
def f_L_passes_307 (M : xM) (k199 : Int32 → Int32 → Int32 → Int32 → Int32 → Option Int32) (k250 : Int32 → Int32 → Int32 → Int32 → Int32 → Int32 → Int32 → Option Int32) (i1 : Int32) (i2 : Int32) (i3 : Int32) (i4 : Int32) (i5 : Int32) (i6 : Int32) (i7 : Int32) (s0 : Int32) : Option Int32 :=
  if (((i6 : Int32) >>> ((i7 : Int32) &&& 31)) &&& 1) = 1 then (
    f_L_passes_323 M k199 k250 i1 i2 i3 i4 i5 i6 i7 s0 1)
  else (
    f_L_passes_323 M k199 k250 i1 i2 i3 i4 i5 i6 i7 s0 0)
set_option maxHeartbeats 1000000 in
theorem x_L_passes_307 {ξ : xX} {M : xM} {k199 : Int32 → Int32 → Int32 → Int32 → Int32 → Option Int32} {k250 : Int32 → Int32 → Int32 → Int32 → Int32 → Int32 → Int32 → Option Int32} {i1 : Int32} {i2 : Int32} {i3 : Int32} {i4 : Int32} {i5 : Int32} {i6 : Int32} {i7 : Int32} {s0 : Int32} (hk199 : ∀ (j1 j2 j3 j4 j5 : Int32) (z : Int32), k199 j1 j2 j3 j4 j5 = some z → X ξ mL_passes 199 [.ref 0, .int j1, .int j2, .int j3, .int j4, .int j5] [] SH M 0 0 (xr (some (.int z)) SH M)) (hk250 : ∀ (j1 j2 j3 j4 j5 j6 j7 : Int32) (z : Int32), k250 j1 j2 j3 j4 j5 j6 j7 = some z → X ξ mL_passes 250 [.ref 0, .int j1, .int j2, .int j3, .int j4, .int j5, .int j6, .int j7] [] SH M 0 0 (xr (some (.int z)) SH M)) {z : Int32} (h : f_L_passes_307 M k199 k250 i1 i2 i3 i4 i5 i6 i7 s0 = some z) : X ξ mL_passes 307 [.ref 0, .int i1, .int i2, .int i3, .int i4, .int i5, .int i6, .int i7] [.int s0] SH M 0 0 (xr (some (.int z)) SH M) := by
  rw [f_L_passes_307] at h
  refine X_iload (x := i6) dL_passes_307 rfl ?_
  refine X_iload (x := i7) dL_passes_309 rfl ?_
  refine X_ishr dL_passes_311 ?_
  refine X_iconst 1 dL_passes_312 rfl ?_
  refine X_iand dL_passes_313 ?_
  refine X_iconst 1 dL_passes_314 rfl ?_
  refine X_icmp_ne 322 dL_passes_315 (by decide) h (fun h => ?_) (fun h => ?_)
  · refine X_iconst 0 dL_passes_322 rfl ?_
    exact x_L_passes_323 hk199 hk250 h
  · refine X_iconst 1 dL_passes_318 rfl ?_
    refine X_goto 323 dL_passes_319 (by decide) ?_
    exact x_L_passes_323 hk199 hk250 h
def f_L_passes_339 (M : xM) (k199 : Int32 → Int32 → Int32 → Int32 → Int32 → Option Int32) (i1 : Int32) (i2 : Int32) (i3 : Int32) (i4 : Int32) (i5 : Int32) (i6 : Int32) (i7 : Int32) : Option Int32 :=
  xl (i5 + 1) fun v39 =>
  k199 i1 i2 i3 i4 v39
set_option maxHeartbeats 1000000 in
theorem x_L_passes_339 {ξ : xX} {M : xM} {k199 : Int32 → Int32 → Int32 → Int32 → Int32 → Option Int32} {i1 : Int32} {i2 : Int32} {i3 : Int32} {i4 : Int32} {i5 : Int32} {i6 : Int32} {i7 : Int32} (hk199 : ∀ (j1 j2 j3 j4 j5 : Int32) (z : Int32), k199 j1 j2 j3 j4 j5 = some z → X ξ mL_passes 199 [.ref 0, .int j1, .int j2, .int j3, .int j4, .int j5] [] SH M 0 0 (xr (some (.int z)) SH M)) {z : Int32} (h : f_L_passes_339 M k199 i1 i2 i3 i4 i5 i6 i7 = some z) : X ξ mL_passes 339 [.ref 0, .int i1, .int i2, .int i3, .int i4, .int i5, .int i6, .int i7] [] SH M 0 0 (xr (some (.int z)) SH M) := by
  rw [f_L_passes_339] at h
  refine X_iincL (x := i5) 1 (fun v39 => [.ref 0, .int i1, .int i2, .int i3, .int i4, .int v39, .int i6, .int i7]) dL_passes_339 rfl rfl (Nat.le_of_ble_eq_true rfl) (xcat1_of rfl) h (fun _ => rfl) (fun v39 h => ?_)
  refine X_goto 199 dL_passes_342 (by decide) ?_
  refine X_cut 6 ?_
  exact hk199 _ _ _ _ _ _ h
def f_L_passes_250 (M : xM) (k199 : Int32 → Int32 → Int32 → Int32 → Int32 → Option Int32) : Nat → Int32 → Int32 → Int32 → Int32 → Int32 → Int32 → Int32 → Option Int32
  | 0, _, _, _, _, _, _, _ => none
  | fu + 1, i1, i2, i3, i4, i5, i6, i7 =>
    if 4 ≤ i7 then (
      f_L_passes_339 M k199 i1 i2 i3 i4 i5 i6 i7)
    else (
      if i4 = 0 then (
        f_L_passes_339 M k199 i1 i2 i3 i4 i5 i6 i7)
      else (
        xb (f_X8_captured M i5 i7) fun v40 =>
        if v40 = (-1) then (
          if (((i6 : Int32) >>> ((i7 : Int32) &&& 31)) &&& 1) = 0 then (
            f_L_passes_331 M k199 (f_L_passes_250 M k199 fu) i1 i2 i3 i4 i5 i6 i7 1)
          else (
            f_L_passes_331 M k199 (f_L_passes_250 M k199 fu) i1 i2 i3 i4 i5 i6 i7 0))
        else (
          xb (f_X8_captured M i5 i7) fun v41 =>
          if v41 ≤ 0 then (
            f_L_passes_307 M k199 (f_L_passes_250 M k199 fu) i1 i2 i3 i4 i5 i6 i7 0)
          else (
            f_L_passes_307 M k199 (f_L_passes_250 M k199 fu) i1 i2 i3 i4 i5 i6 i7 1))))
set_option maxHeartbeats 1000000 in
theorem x_L_passes_250 {ξ : xX} {M : xM} {k199 : Int32 → Int32 → Int32 → Int32 → Int32 → Option Int32} (hk199 : ∀ (j1 j2 j3 j4 j5 : Int32) (z : Int32), k199 j1 j2 j3 j4 j5 = some z → X ξ mL_passes 199 [.ref 0, .int j1, .int j2, .int j3, .int j4, .int j5] [] SH M 0 0 (xr (some (.int z)) SH M)) : ∀ (fu : Nat) (i1 i2 i3 i4 i5 i6 i7 : Int32) (z : Int32), f_L_passes_250 M k199 fu i1 i2 i3 i4 i5 i6 i7 = some z → X ξ mL_passes 250 [.ref 0, .int i1, .int i2, .int i3, .int i4, .int i5, .int i6, .int i7] [] SH M 0 0 (xr (some (.int z)) SH M) := by
  intro fu
  induction fu with
  | zero => intro i1 i2 i3 i4 i5 i6 i7 z h; rw [f_L_passes_250] at h; cases h
  | succ fu ih =>
    intro i1 i2 i3 i4 i5 i6 i7 z h
    rw [f_L_passes_250] at h
    refine X_iload (x := i7) dL_passes_250 rfl ?_
    refine X_iconst 4 dL_passes_252 rfl ?_
    refine X_icmp_ge 339 dL_passes_253 (by decide) h (fun h => ?_) (fun h => ?_)
    · exact x_L_passes_339 hk199 h
    · refine X_iload (x := i4) dL_passes_256 rfl ?_
      refine X_if_eq 339 dL_passes_258 (by decide) h (fun h => ?_) (fun h => ?_)
      · exact x_L_passes_339 hk199 h
      · refine X_aload_n (x := 0) dL_passes_261 rfl ?_
        refine X_iload (x := i5) dL_passes_262 rfl ?_
        refine X_iload (x := i7) dL_passes_264 rfl ?_
        refine X_vP (μ' := mX8_captured) [.int i5, .int i7] [] kL_RL_43 kM_X8_captured rv_0 rfl rfl rfl dL_passes_266 h (fun _ hv => x_X8_captured hv) (fun v40 h => ?_)
        refine X_iconst (-1) dL_passes_269 rfl ?_
        refine X_icmp_ne 291 dL_passes_270 (by decide) h (fun h => ?_) (fun h => ?_)
        · refine X_aload_n (x := 0) dL_passes_291 rfl ?_
          refine X_iload (x := i5) dL_passes_292 rfl ?_
          refine X_iload (x := i7) dL_passes_294 rfl ?_
          refine X_vP (μ' := mX8_captured) [.int i5, .int i7] [] kL_RL_43 kM_X8_captured rv_0 rfl rfl rfl dL_passes_296 h (fun _ hv => x_X8_captured hv) (fun v41 h => ?_)
          refine X_if_le 306 dL_passes_299 (by decide) h (fun h => ?_) (fun h => ?_)
          · refine X_iconst 0 dL_passes_306 rfl ?_
            exact x_L_passes_307 hk199 ih h
          · refine X_iconst 1 dL_passes_302 rfl ?_
            refine X_goto 307 dL_passes_303 (by decide) ?_
            exact x_L_passes_307 hk199 ih h
        · refine X_iload (x := i6) dL_passes_273 rfl ?_
          refine X_iload (x := i7) dL_passes_275 rfl ?_
          refine X_ishr dL_passes_277 ?_
          refine X_iconst 1 dL_passes_278 rfl ?_
          refine X_iand dL_passes_279 ?_
          refine X_if_ne 287 dL_passes_280 (by decide) h (fun h => ?_) (fun h => ?_)
          · refine X_iconst 0 dL_passes_287 rfl ?_
            refine X_goto 331 dL_passes_288 (by decide) ?_
            exact x_L_passes_331 hk199 ih h
          · refine X_iconst 1 dL_passes_283 rfl ?_
            refine X_goto 331 dL_passes_284 (by decide) ?_
            exact x_L_passes_331 hk199 ih h
def f_L_passes_245 (M : xM) (k199 : Int32 → Int32 → Int32 → Int32 → Int32 → Option Int32) (i1 : Int32) (i2 : Int32) (i3 : Int32) (i4 : Int32) (i5 : Int32) (i6 : Int32) (s0 : Int32) : Option Int32 :=
  xl s0 fun v42 =>
  xl (0 : Int32) fun v43 =>
  f_L_passes_250 M k199 xFU i1 i2 i3 v42 i5 i6 v43
set_option maxHeartbeats 1000000 in
theorem x_L_passes_245 {ξ : xX} {M : xM} {k199 : Int32 → Int32 → Int32 → Int32 → Int32 → Option Int32} {i1 : Int32} {i2 : Int32} {i3 : Int32} {i4 : Int32} {i5 : Int32} {i6 : Int32} {s0 : Int32} (hk199 : ∀ (j1 j2 j3 j4 j5 : Int32) (z : Int32), k199 j1 j2 j3 j4 j5 = some z → X ξ mL_passes 199 [.ref 0, .int j1, .int j2, .int j3, .int j4, .int j5] [] SH M 0 0 (xr (some (.int z)) SH M)) {z : Int32} (h : f_L_passes_245 M k199 i1 i2 i3 i4 i5 i6 s0 = some z) : X ξ mL_passes 245 [.ref 0, .int i1, .int i2, .int i3, .int i4, .int i5, .int i6] [.int s0] SH M 0 0 (xr (some (.int z)) SH M) := by
  rw [f_L_passes_245] at h
  refine X_istoreL (fun v42 => [.ref 0, .int i1, .int i2, .int i3, .int v42, .int i5, .int i6]) dL_passes_245 (Nat.le_of_ble_eq_true rfl) (Nat.le_of_ble_eq_true rfl) (xcat1_of rfl) h (fun _ => rfl) (fun v42 h => ?_)
  refine X_iconst 0 dL_passes_247 rfl ?_
  refine X_istoreL (fun v43 => [.ref 0, .int i1, .int i2, .int i3, .int v42, .int i5, .int i6, .int v43]) dL_passes_248 (Nat.le_of_ble_eq_true rfl) (Nat.le_of_ble_eq_true rfl) (xcat1_of rfl) h (fun _ => rfl) (fun v43 h => ?_)
  exact x_L_passes_250 hk199 _ _ _ _ _ _ _ _ _ h
def f_L_passes_244 (M : xM) (k199 : Int32 → Int32 → Int32 → Int32 → Int32 → Option Int32) (i1 : Int32) (i2 : Int32) (i3 : Int32) (i4 : Int32) (i5 : Int32) (i6 : Int32) : Option Int32 :=
  f_L_passes_245 M k199 i1 i2 i3 i4 i5 i6 0
set_option maxHeartbeats 1000000 in
theorem x_L_passes_244 {ξ : xX} {M : xM} {k199 : Int32 → Int32 → Int32 → Int32 → Int32 → Option Int32} {i1 : Int32} {i2 : Int32} {i3 : Int32} {i4 : Int32} {i5 : Int32} {i6 : Int32} (hk199 : ∀ (j1 j2 j3 j4 j5 : Int32) (z : Int32), k199 j1 j2 j3 j4 j5 = some z → X ξ mL_passes 199 [.ref 0, .int j1, .int j2, .int j3, .int j4, .int j5] [] SH M 0 0 (xr (some (.int z)) SH M)) {z : Int32} (h : f_L_passes_244 M k199 i1 i2 i3 i4 i5 i6 = some z) : X ξ mL_passes 244 [.ref 0, .int i1, .int i2, .int i3, .int i4, .int i5, .int i6] [] SH M 0 0 (xr (some (.int z)) SH M) := by
  rw [f_L_passes_244] at h
  refine X_iconst 0 dL_passes_244 rfl ?_
  exact x_L_passes_245 hk199 h
def f_L_passes_345 (M : xM) (i1 : Int32) (i2 : Int32) (i3 : Int32) (i4 : Int32) (i5 : Int32) : Option Int32 :=
  if i4 = 0 then (
    some 0)
  else (
    if i2 = i1 then (
      if i3 = i1 then (
        some 1)
      else (
        some 0))
    else (
      some 0))
set_option maxHeartbeats 1000000 in
theorem x_L_passes_345 {ξ : xX} {M : xM} {i1 : Int32} {i2 : Int32} {i3 : Int32} {i4 : Int32} {i5 : Int32} {z : Int32} (h : f_L_passes_345 M i1 i2 i3 i4 i5 = some z) : X ξ mL_passes 345 [.ref 0, .int i1, .int i2, .int i3, .int i4, .int i5] [] SH M 0 0 (xr (some (.int z)) SH M) := by
  rw [f_L_passes_345] at h
  refine X_iload (x := i4) dL_passes_345 rfl ?_
  refine X_if_eq 364 dL_passes_347 (by decide) h (fun h => ?_) (fun h => ?_)
  · refine X_iconst 0 dL_passes_364 rfl ?_
    exact X_retLP (by decide) dL_passes_365 rfl (Nat.le_refl _) (Nat.le_refl _) h
  · refine X_iload_n (x := i2) dL_passes_350 rfl ?_
    refine X_iload_n (x := i1) dL_passes_351 rfl ?_
    refine X_icmp_ne 364 dL_passes_352 (by decide) h (fun h => ?_) (fun h => ?_)
    · refine X_iconst 0 dL_passes_364 rfl ?_
      exact X_retLP (by decide) dL_passes_365 rfl (Nat.le_refl _) (Nat.le_refl _) h
    · refine X_iload_n (x := i3) dL_passes_355 rfl ?_
      refine X_iload_n (x := i1) dL_passes_356 rfl ?_
      refine X_icmp_ne 364 dL_passes_357 (by decide) h (fun h => ?_) (fun h => ?_)
      · refine X_iconst 0 dL_passes_364 rfl ?_
        exact X_retLP (by decide) dL_passes_365 rfl (Nat.le_refl _) (Nat.le_refl _) h
      · refine X_iconst 1 dL_passes_360 rfl ?_
        refine X_goto 365 dL_passes_361 (by decide) ?_
        exact X_retLP (by decide) dL_passes_365 rfl (Nat.le_refl _) (Nat.le_refl _) h
def f_L_passes_199 (M : xM) : Nat → Int32 → Int32 → Int32 → Int32 → Int32 → Option Int32
  | 0, _, _, _, _, _ => none
  | fu + 1, i1, i2, i3, i4, i5 =>
    if i1 ≤ i5 then (
      f_L_passes_345 M i1 i2 i3 i4 i5)
    else (
      if i4 = 0 then (
        f_L_passes_345 M i1 i2 i3 i4 i5)
      else (
        xb (f_X8_pass M i5 5) fun v44 =>
        xl v44 fun v45 =>
        if v45 ≤ 0 then (
          f_L_passes_244 M (f_L_passes_199 M fu) i1 i2 i3 i4 i5 v45)
        else (
          xb (f_X8_pass M i5 6) fun v46 =>
          if (v46 &&& (v45 ^^^ (-1))) = 0 then (
            f_L_passes_245 M (f_L_passes_199 M fu) i1 i2 i3 i4 i5 v45 1)
          else (
            f_L_passes_244 M (f_L_passes_199 M fu) i1 i2 i3 i4 i5 v45))))
set_option maxHeartbeats 1000000 in
theorem x_L_passes_199 {ξ : xX} {M : xM} : ∀ (fu : Nat) (i1 i2 i3 i4 i5 : Int32) (z : Int32), f_L_passes_199 M fu i1 i2 i3 i4 i5 = some z → X ξ mL_passes 199 [.ref 0, .int i1, .int i2, .int i3, .int i4, .int i5] [] SH M 0 0 (xr (some (.int z)) SH M) := by
  intro fu
  induction fu with
  | zero => intro i1 i2 i3 i4 i5 z h; rw [f_L_passes_199] at h; cases h
  | succ fu ih =>
    intro i1 i2 i3 i4 i5 z h
    rw [f_L_passes_199] at h
    refine X_iload (x := i5) dL_passes_199 rfl ?_
    refine X_iload_n (x := i1) dL_passes_201 rfl ?_
    refine X_icmp_ge 345 dL_passes_202 (by decide) h (fun h => ?_) (fun h => ?_)
    · exact x_L_passes_345 h
    · refine X_iload (x := i4) dL_passes_205 rfl ?_
      refine X_if_eq 345 dL_passes_207 (by decide) h (fun h => ?_) (fun h => ?_)
      · exact x_L_passes_345 h
      · refine X_aload_n (x := 0) dL_passes_210 rfl ?_
        refine X_iload (x := i5) dL_passes_211 rfl ?_
        refine X_iconst 5 dL_passes_213 rfl ?_
        refine X_vP (μ' := mX8_pass) [.int i5, .int 5] [] kL_RL_37 kM_X8_pass rv_0 rfl rfl rfl dL_passes_214 h (fun _ hv => x_X8_pass hv) (fun v44 h => ?_)
        refine X_istoreL (fun v45 => [.ref 0, .int i1, .int i2, .int i3, .int i4, .int i5, .int v45]) dL_passes_217 (Nat.le_of_ble_eq_true rfl) (Nat.le_of_ble_eq_true rfl) (xcat1_of rfl) h (fun _ => rfl) (fun v45 h => ?_)
        refine X_iload (x := v45) dL_passes_219 rfl ?_
        refine X_if_le 244 dL_passes_221 (by decide) h (fun h => ?_) (fun h => ?_)
        · exact x_L_passes_244 ih h
        · refine X_aload_n (x := 0) dL_passes_224 rfl ?_
          refine X_iload (x := i5) dL_passes_225 rfl ?_
          refine X_bipush 6 dL_passes_227 rfl ?_
          refine X_vP (μ' := mX8_pass) [.int i5, .int 6] [] kL_RL_37 kM_X8_pass rv_0 rfl rfl rfl dL_passes_229 h (fun _ hv => x_X8_pass hv) (fun v46 h => ?_)
          refine X_iload (x := v45) dL_passes_232 rfl ?_
          refine X_iconst (-1) dL_passes_234 rfl ?_
          refine X_ixor dL_passes_235 ?_
          refine X_iand dL_passes_236 ?_
          refine X_if_ne 244 dL_passes_237 (by decide) h (fun h => ?_) (fun h => ?_)
          · exact x_L_passes_244 ih h
          · refine X_iconst 1 dL_passes_240 rfl ?_
            refine X_goto 245 dL_passes_241 (by decide) ?_
            exact x_L_passes_245 ih h
def f_L_passes_67 (M : xM) : Nat → Int32 → Int32 → Int32 → Int32 → Int32 → Option Int32
  | 0, _, _, _, _, _ => none
  | fu + 1, i1, i2, i3, i4, i5 =>
    xb (f_X8_total M 2) fun v47 =>
    if v47 ≤ i5 then (
      xl (0 : Int32) fun v48 =>
      f_L_passes_199 M xFU i1 i2 i3 i4 v48)
    else (
      xl (28800 : Int32) fun v49 =>
      xb (f_X8_machine M i5 5) fun v50 =>
      xl (i3 + v50) fun v51 =>
      xl (0 : Int32) fun v52 =>
      f_L_passes_95 M (f_L_passes_67 M fu) xFU i1 i2 v51 i4 i5 v49 v52)
set_option maxHeartbeats 1000000 in
theorem x_L_passes_67 {ξ : xX} {M : xM} : ∀ (fu : Nat) (i1 i2 i3 i4 i5 : Int32) (z : Int32), f_L_passes_67 M fu i1 i2 i3 i4 i5 = some z → X ξ mL_passes 67 [.ref 0, .int i1, .int i2, .int i3, .int i4, .int i5] [] SH M 0 0 (xr (some (.int z)) SH M) := by
  intro fu
  induction fu with
  | zero => intro i1 i2 i3 i4 i5 z h; rw [f_L_passes_67] at h; cases h
  | succ fu ih =>
    intro i1 i2 i3 i4 i5 z h
    rw [f_L_passes_67] at h
    refine X_iload (x := i5) dL_passes_67 rfl ?_
    refine X_aload_n (x := 0) dL_passes_69 rfl ?_
    refine X_iconst 2 dL_passes_70 rfl ?_
    refine X_vP (μ' := mX8_total) [.int 2] [.int i5] kL_RL_9 kM_X8_total rv_0 rfl rfl rfl dL_passes_71 h (fun _ hv => x_X8_total hv) (fun v47 h => ?_)
    refine X_icmp_ge 196 dL_passes_74 (by decide) h (fun h => ?_) (fun h => ?_)
    · refine X_iconst 0 dL_passes_196 rfl ?_
      refine X_istoreL (fun v48 => [.ref 0, .int i1, .int i2, .int i3, .int i4, .int v48]) dL_passes_197 (Nat.le_of_ble_eq_true rfl) (Nat.le_of_ble_eq_true rfl) (xcat1_of rfl) h (fun _ => rfl) (fun v48 h => ?_)
      exact x_L_passes_199 _ _ _ _ _ _ _ h
    · refine X_sipush 28800 dL_passes_77 rfl ?_
      refine X_istoreL (fun v49 => [.ref 0, .int i1, .int i2, .int i3, .int i4, .int i5, .int v49]) dL_passes_80 (Nat.le_of_ble_eq_true rfl) (Nat.le_of_ble_eq_true rfl) (xcat1_of rfl) h (fun _ => rfl) (fun v49 h => ?_)
      refine X_iload_n (x := i3) dL_passes_82 rfl ?_
      refine X_aload_n (x := 0) dL_passes_83 rfl ?_
      refine X_iload (x := i5) dL_passes_84 rfl ?_
      refine X_iconst 5 dL_passes_86 rfl ?_
      refine X_vP (μ' := mX8_machine) [.int i5, .int 5] [.int i3] kL_RL_34 kM_X8_machine rv_0 rfl rfl rfl dL_passes_87 h (fun _ hv => x_X8_machine hv) (fun v50 h => ?_)
      refine X_iadd dL_passes_90 ?_
      refine X_istoreL_n (fun v51 => [.ref 0, .int i1, .int i2, .int v51, .int i4, .int i5, .int v49]) dL_passes_91 (Nat.le_of_ble_eq_true rfl) (Nat.le_of_ble_eq_true rfl) (xcat1_of rfl) h (fun _ => rfl) (fun v51 h => ?_)
      refine X_iconst 0 dL_passes_92 rfl ?_
      refine X_istoreL (fun v52 => [.ref 0, .int i1, .int i2, .int v51, .int i4, .int i5, .int v49, .int v52]) dL_passes_93 (Nat.le_of_ble_eq_true rfl) (Nat.le_of_ble_eq_true rfl) (xcat1_of rfl) h (fun _ => rfl) (fun v52 h => ?_)
      exact x_L_passes_95 ih _ _ _ _ _ _ _ _ _ h
def f_L_passes_16 (M : xM) : Nat → Int32 → Int32 → Int32 → Int32 → Int32 → Option Int32
  | 0, _, _, _, _, _ => none
  | fu + 1, i1, i2, i3, i4, i5 =>
    xb (f_X8_total M 1) fun v53 =>
    if v53 ≤ i5 then (
      xl (0 : Int32) fun v54 =>
      f_L_passes_67 M xFU i1 i2 i3 i4 v54)
    else (
      xb (f_X8_carrier M i5 5) fun v55 =>
      xl (i2 + v55) fun v56 =>
      if i4 = 0 then (
        f_L_passes_55 M (f_L_passes_16 M fu) i1 v56 i3 i4 i5)
      else (
        xb (f_X8_carrier M i5 4) fun v57 =>
        if v57 < 0 then (
          f_L_passes_55 M (f_L_passes_16 M fu) i1 v56 i3 i4 i5)
        else (
          f_L_passes_56 M (f_L_passes_16 M fu) i1 v56 i3 i4 i5 1)))
set_option maxHeartbeats 1000000 in
theorem x_L_passes_16 {ξ : xX} {M : xM} : ∀ (fu : Nat) (i1 i2 i3 i4 i5 : Int32) (z : Int32), f_L_passes_16 M fu i1 i2 i3 i4 i5 = some z → X ξ mL_passes 16 [.ref 0, .int i1, .int i2, .int i3, .int i4, .int i5] [] SH M 0 0 (xr (some (.int z)) SH M) := by
  intro fu
  induction fu with
  | zero => intro i1 i2 i3 i4 i5 z h; rw [f_L_passes_16] at h; cases h
  | succ fu ih =>
    intro i1 i2 i3 i4 i5 z h
    rw [f_L_passes_16] at h
    refine X_iload (x := i5) dL_passes_16 rfl ?_
    refine X_aload_n (x := 0) dL_passes_18 rfl ?_
    refine X_iconst 1 dL_passes_19 rfl ?_
    refine X_vP (μ' := mX8_total) [.int 1] [.int i5] kL_RL_9 kM_X8_total rv_0 rfl rfl rfl dL_passes_20 h (fun _ hv => x_X8_total hv) (fun v53 h => ?_)
    refine X_icmp_ge 64 dL_passes_23 (by decide) h (fun h => ?_) (fun h => ?_)
    · refine X_iconst 0 dL_passes_64 rfl ?_
      refine X_istoreL (fun v54 => [.ref 0, .int i1, .int i2, .int i3, .int i4, .int v54]) dL_passes_65 (Nat.le_of_ble_eq_true rfl) (Nat.le_of_ble_eq_true rfl) (xcat1_of rfl) h (fun _ => rfl) (fun v54 h => ?_)
      exact x_L_passes_67 _ _ _ _ _ _ _ h
    · refine X_iload_n (x := i2) dL_passes_26 rfl ?_
      refine X_aload_n (x := 0) dL_passes_27 rfl ?_
      refine X_iload (x := i5) dL_passes_28 rfl ?_
      refine X_iconst 5 dL_passes_30 rfl ?_
      refine X_vP (μ' := mX8_carrier) [.int i5, .int 5] [.int i2] kL_RL_31 kM_X8_carrier rv_0 rfl rfl rfl dL_passes_31 h (fun _ hv => x_X8_carrier hv) (fun v55 h => ?_)
      refine X_iadd dL_passes_34 ?_
      refine X_istoreL_n (fun v56 => [.ref 0, .int i1, .int v56, .int i3, .int i4, .int i5]) dL_passes_35 (Nat.le_of_ble_eq_true rfl) (Nat.le_of_ble_eq_true rfl) (xcat1_of rfl) h (fun _ => rfl) (fun v56 h => ?_)
      refine X_iload (x := i4) dL_passes_36 rfl ?_
      refine X_if_eq 55 dL_passes_38 (by decide) h (fun h => ?_) (fun h => ?_)
      · exact x_L_passes_55 ih h
      · refine X_aload_n (x := 0) dL_passes_41 rfl ?_
        refine X_iload (x := i5) dL_passes_42 rfl ?_
        refine X_iconst 4 dL_passes_44 rfl ?_
        refine X_vP (μ' := mX8_carrier) [.int i5, .int 4] [] kL_RL_31 kM_X8_carrier rv_0 rfl rfl rfl dL_passes_45 h (fun _ hv => x_X8_carrier hv) (fun v57 h => ?_)
        refine X_if_lt 55 dL_passes_48 (by decide) h (fun h => ?_) (fun h => ?_)
        · exact x_L_passes_55 ih h
        · refine X_iconst 1 dL_passes_51 rfl ?_
          refine X_goto 56 dL_passes_52 (by decide) ?_
          exact x_L_passes_56 ih h
def f_L_passes (M : xM) : Option Int32 :=
  xb (f_X8_total M 4) fun v58 =>
  xl v58 fun v59 =>
  xl (0 : Int32) fun v60 =>
  xl (0 : Int32) fun v61 =>
  xl (1 : Int32) fun v62 =>
  xl (0 : Int32) fun v63 =>
  f_L_passes_16 M xFU v59 v60 v61 v62 v63
set_option maxHeartbeats 1000000 in
theorem x_L_passes {ξ : xX} {M : xM} {z : Int32} (h : f_L_passes M = some z) : X ξ mL_passes 0 [.ref 0] [] SH M 0 0 (xr (some (.int z)) SH M) := by
  rw [f_L_passes] at h
  refine X_aload_n (x := 0) dL_passes_0 rfl ?_
  refine X_iconst 4 dL_passes_1 rfl ?_
  refine X_vP (μ' := mX8_total) [.int 4] [] kL_RL_9 kM_X8_total rv_0 rfl rfl rfl dL_passes_2 h (fun _ hv => x_X8_total hv) (fun v58 h => ?_)
  refine X_istoreL_n (fun v59 => [.ref 0, .int v59]) dL_passes_5 (Nat.le_of_ble_eq_true rfl) (Nat.le_of_ble_eq_true rfl) (xcat1_of rfl) h (fun _ => rfl) (fun v59 h => ?_)
  refine X_iconst 0 dL_passes_6 rfl ?_
  refine X_istoreL_n (fun v60 => [.ref 0, .int v59, .int v60]) dL_passes_7 (Nat.le_of_ble_eq_true rfl) (Nat.le_of_ble_eq_true rfl) (xcat1_of rfl) h (fun _ => rfl) (fun v60 h => ?_)
  refine X_iconst 0 dL_passes_8 rfl ?_
  refine X_istoreL_n (fun v61 => [.ref 0, .int v59, .int v60, .int v61]) dL_passes_9 (Nat.le_of_ble_eq_true rfl) (Nat.le_of_ble_eq_true rfl) (xcat1_of rfl) h (fun _ => rfl) (fun v61 h => ?_)
  refine X_iconst 1 dL_passes_10 rfl ?_
  refine X_istoreL (fun v62 => [.ref 0, .int v59, .int v60, .int v61, .int v62]) dL_passes_11 (Nat.le_of_ble_eq_true rfl) (Nat.le_of_ble_eq_true rfl) (xcat1_of rfl) h (fun _ => rfl) (fun v62 h => ?_)
  refine X_iconst 0 dL_passes_13 rfl ?_
  refine X_istoreL (fun v63 => [.ref 0, .int v59, .int v60, .int v61, .int v62, .int v63]) dL_passes_14 (Nat.le_of_ble_eq_true rfl) (Nat.le_of_ble_eq_true rfl) (xcat1_of rfl) h (fun _ => rfl) (fun v63 h => ?_)
  exact x_L_passes_16 _ _ _ _ _ _ _ h
def f_L_best_146 (M : xM) (k4 : Int32 → Int32 → Option Int32) (k92 : Int32 → Int32 → Int32 → Int32 → Int32 → Option Int32) (i1 : Int32) (i2 : Int32) (i3 : Int32) (i4 : Int32) (i5 : Int32) (s0 : Int32) : Option Int32 :=
  xl s0 fun v10 =>
  xl (i5 + 1) fun v11 =>
  k92 v10 i2 i3 i4 v11
set_option maxHeartbeats 1000000 in
theorem x_L_best_146 {ξ : xX} {M : xM} {k4 : Int32 → Int32 → Option Int32} {k92 : Int32 → Int32 → Int32 → Int32 → Int32 → Option Int32} {i1 : Int32} {i2 : Int32} {i3 : Int32} {i4 : Int32} {i5 : Int32} {s0 : Int32} (hk4 : ∀ (j1 j2 : Int32) (z : Int32), k4 j1 j2 = some z → X ξ mL_best 4 [.ref 0, .int j1, .int j2] [] SH M 0 0 (xr (some (.int z)) SH M)) (hk92 : ∀ (j1 j2 j3 j4 j5 : Int32) (z : Int32), k92 j1 j2 j3 j4 j5 = some z → X ξ mL_best 92 [.ref 0, .int j1, .int j2, .int j3, .int j4, .int j5] [] SH M 0 0 (xr (some (.int z)) SH M)) {z : Int32} (h : f_L_best_146 M k4 k92 i1 i2 i3 i4 i5 s0 = some z) : X ξ mL_best 146 [.ref 0, .int i1, .int i2, .int i3, .int i4, .int i5] [.int s0] SH M 0 0 (xr (some (.int z)) SH M) := by
  rw [f_L_best_146] at h
  refine X_istoreL_n (fun v10 => [.ref 0, .int v10, .int i2, .int i3, .int i4, .int i5]) dL_best_146 (Nat.le_of_ble_eq_true rfl) (Nat.le_of_ble_eq_true rfl) (xcat1_of rfl) h (fun _ => rfl) (fun v10 h => ?_)
  refine X_iincL (x := i5) 1 (fun v11 => [.ref 0, .int v10, .int i2, .int i3, .int i4, .int v11]) dL_best_147 rfl rfl (Nat.le_of_ble_eq_true rfl) (xcat1_of rfl) h (fun _ => rfl) (fun v11 h => ?_)
  refine X_goto 92 dL_best_150 (by decide) ?_
  exact hk92 _ _ _ _ _ _ h
def f_L_best_141 (M : xM) (k4 : Int32 → Int32 → Option Int32) (k92 : Int32 → Int32 → Int32 → Int32 → Int32 → Option Int32) (i1 : Int32) (i2 : Int32) (i3 : Int32) (i4 : Int32) (i5 : Int32) : Option Int32 :=
  f_L_best_146 M k4 k92 i1 i2 i3 i4 i5 1
set_option maxHeartbeats 1000000 in
theorem x_L_best_141 {ξ : xX} {M : xM} {k4 : Int32 → Int32 → Option Int32} {k92 : Int32 → Int32 → Int32 → Int32 → Int32 → Option Int32} {i1 : Int32} {i2 : Int32} {i3 : Int32} {i4 : Int32} {i5 : Int32} (hk4 : ∀ (j1 j2 : Int32) (z : Int32), k4 j1 j2 = some z → X ξ mL_best 4 [.ref 0, .int j1, .int j2] [] SH M 0 0 (xr (some (.int z)) SH M)) (hk92 : ∀ (j1 j2 j3 j4 j5 : Int32) (z : Int32), k92 j1 j2 j3 j4 j5 = some z → X ξ mL_best 92 [.ref 0, .int j1, .int j2, .int j3, .int j4, .int j5] [] SH M 0 0 (xr (some (.int z)) SH M)) {z : Int32} (h : f_L_best_141 M k4 k92 i1 i2 i3 i4 i5 = some z) : X ξ mL_best 141 [.ref 0, .int i1, .int i2, .int i3, .int i4, .int i5] [] SH M 0 0 (xr (some (.int z)) SH M) := by
  rw [f_L_best_141] at h
  refine X_iconst 1 dL_best_141 rfl ?_
  refine X_goto 146 dL_best_142 (by decide) ?_
  exact x_L_best_146 hk4 hk92 h
def f_L_best_145 (M : xM) (k4 : Int32 → Int32 → Option Int32) (k92 : Int32 → Int32 → Int32 → Int32 → Int32 → Option Int32) (i1 : Int32) (i2 : Int32) (i3 : Int32) (i4 : Int32) (i5 : Int32) : Option Int32 :=
  f_L_best_146 M k4 k92 i1 i2 i3 i4 i5 0
set_option maxHeartbeats 1000000 in
theorem x_L_best_145 {ξ : xX} {M : xM} {k4 : Int32 → Int32 → Option Int32} {k92 : Int32 → Int32 → Int32 → Int32 → Int32 → Option Int32} {i1 : Int32} {i2 : Int32} {i3 : Int32} {i4 : Int32} {i5 : Int32} (hk4 : ∀ (j1 j2 : Int32) (z : Int32), k4 j1 j2 = some z → X ξ mL_best 4 [.ref 0, .int j1, .int j2] [] SH M 0 0 (xr (some (.int z)) SH M)) (hk92 : ∀ (j1 j2 j3 j4 j5 : Int32) (z : Int32), k92 j1 j2 j3 j4 j5 = some z → X ξ mL_best 92 [.ref 0, .int j1, .int j2, .int j3, .int j4, .int j5] [] SH M 0 0 (xr (some (.int z)) SH M)) {z : Int32} (h : f_L_best_145 M k4 k92 i1 i2 i3 i4 i5 = some z) : X ξ mL_best 145 [.ref 0, .int i1, .int i2, .int i3, .int i4, .int i5] [] SH M 0 0 (xr (some (.int z)) SH M) := by
  rw [f_L_best_145] at h
  refine X_iconst 0 dL_best_145 rfl ?_
  exact x_L_best_146 hk4 hk92 h
def f_L_best_153 (M : xM) (k4 : Int32 → Int32 → Option Int32) (i1 : Int32) (i2 : Int32) (i3 : Int32) (i4 : Int32) (i5 : Int32) : Option Int32 :=
  xl (i2 + 1) fun v12 =>
  k4 i1 v12
set_option maxHeartbeats 1000000 in
theorem x_L_best_153 {ξ : xX} {M : xM} {k4 : Int32 → Int32 → Option Int32} {i1 : Int32} {i2 : Int32} {i3 : Int32} {i4 : Int32} {i5 : Int32} (hk4 : ∀ (j1 j2 : Int32) (z : Int32), k4 j1 j2 = some z → X ξ mL_best 4 [.ref 0, .int j1, .int j2] [] SH M 0 0 (xr (some (.int z)) SH M)) {z : Int32} (h : f_L_best_153 M k4 i1 i2 i3 i4 i5 = some z) : X ξ mL_best 153 [.ref 0, .int i1, .int i2, .int i3, .int i4, .int i5] [] SH M 0 0 (xr (some (.int z)) SH M) := by
  rw [f_L_best_153] at h
  refine X_iincL (x := i2) 1 (fun v12 => [.ref 0, .int i1, .int v12, .int i3, .int i4, .int i5]) dL_best_153 rfl rfl (Nat.le_of_ble_eq_true rfl) (xcat1_of rfl) h (fun _ => rfl) (fun v12 h => ?_)
  refine X_goto 4 dL_best_156 (by decide) ?_
  refine X_cut 3 ?_
  exact hk4 _ _ _ h
def f_L_best_92 (M : xM) (k4 : Int32 → Int32 → Option Int32) : Nat → Int32 → Int32 → Int32 → Int32 → Int32 → Option Int32
  | 0, _, _, _, _, _ => none
  | fu + 1, i1, i2, i3, i4, i5 =>
    xb (f_X8_total M 4) fun v13 =>
    if v13 ≤ i5 then (
      f_L_best_153 M k4 i1 i2 i3 i4 i5)
    else (
      if i1 = 0 then (
        f_L_best_153 M k4 i1 i2 i3 i4 i5)
      else (
        xb (f_X8_quality M i5 i2) fun v14 =>
        if v14 < i4 then (
          f_L_best_141 M k4 (f_L_best_92 M k4 fu) i1 i2 i3 i4 i5)
        else (
          xb (f_X8_quality M i5 i2) fun v15 =>
          if v15 = i4 then (
            if i4 = 0 then (
              f_L_best_141 M k4 (f_L_best_92 M k4 fu) i1 i2 i3 i4 i5)
            else (
              if i5 < i3 then (
                f_L_best_145 M k4 (f_L_best_92 M k4 fu) i1 i2 i3 i4 i5)
              else (
                f_L_best_141 M k4 (f_L_best_92 M k4 fu) i1 i2 i3 i4 i5)))
          else (
            f_L_best_145 M k4 (f_L_best_92 M k4 fu) i1 i2 i3 i4 i5))))
set_option maxHeartbeats 1000000 in
theorem x_L_best_92 {ξ : xX} {M : xM} {k4 : Int32 → Int32 → Option Int32} (hk4 : ∀ (j1 j2 : Int32) (z : Int32), k4 j1 j2 = some z → X ξ mL_best 4 [.ref 0, .int j1, .int j2] [] SH M 0 0 (xr (some (.int z)) SH M)) : ∀ (fu : Nat) (i1 i2 i3 i4 i5 : Int32) (z : Int32), f_L_best_92 M k4 fu i1 i2 i3 i4 i5 = some z → X ξ mL_best 92 [.ref 0, .int i1, .int i2, .int i3, .int i4, .int i5] [] SH M 0 0 (xr (some (.int z)) SH M) := by
  intro fu
  induction fu with
  | zero => intro i1 i2 i3 i4 i5 z h; rw [f_L_best_92] at h; cases h
  | succ fu ih =>
    intro i1 i2 i3 i4 i5 z h
    rw [f_L_best_92] at h
    refine X_iload (x := i5) dL_best_92 rfl ?_
    refine X_aload_n (x := 0) dL_best_94 rfl ?_
    refine X_iconst 4 dL_best_95 rfl ?_
    refine X_vP (μ' := mX8_total) [.int 4] [.int i5] kL_RL_9 kM_X8_total rv_0 rfl rfl rfl dL_best_96 h (fun _ hv => x_X8_total hv) (fun v13 h => ?_)
    refine X_icmp_ge 153 dL_best_99 (by decide) h (fun h => ?_) (fun h => ?_)
    · exact x_L_best_153 hk4 h
    · refine X_iload_n (x := i1) dL_best_102 rfl ?_
      refine X_if_eq 153 dL_best_103 (by decide) h (fun h => ?_) (fun h => ?_)
      · exact x_L_best_153 hk4 h
      · refine X_aload_n (x := 0) dL_best_106 rfl ?_
        refine X_iload (x := i5) dL_best_107 rfl ?_
        refine X_iload_n (x := i2) dL_best_109 rfl ?_
        refine X_vP (μ' := mX8_quality) [.int i5, .int i2] [] kL_RL_28 kM_X8_quality rv_0 rfl rfl rfl dL_best_110 h (fun _ hv => x_X8_quality hv) (fun v14 h => ?_)
        refine X_iload (x := i4) dL_best_113 rfl ?_
        refine X_icmp_lt 141 dL_best_115 (by decide) h (fun h => ?_) (fun h => ?_)
        · exact x_L_best_141 hk4 ih h
        · refine X_aload_n (x := 0) dL_best_118 rfl ?_
          refine X_iload (x := i5) dL_best_119 rfl ?_
          refine X_iload_n (x := i2) dL_best_121 rfl ?_
          refine X_vP (μ' := mX8_quality) [.int i5, .int i2] [] kL_RL_28 kM_X8_quality rv_0 rfl rfl rfl dL_best_122 h (fun _ hv => x_X8_quality hv) (fun v15 h => ?_)
          refine X_iload (x := i4) dL_best_125 rfl ?_
          refine X_icmp_ne 145 dL_best_127 (by decide) h (fun h => ?_) (fun h => ?_)
          · exact x_L_best_145 hk4 ih h
          · refine X_iload (x := i4) dL_best_130 rfl ?_
            refine X_if_eq 141 dL_best_132 (by decide) h (fun h => ?_) (fun h => ?_)
            · exact x_L_best_141 hk4 ih h
            · refine X_iload (x := i5) dL_best_135 rfl ?_
              refine X_iload_n (x := i3) dL_best_137 rfl ?_
              refine X_icmp_lt 145 dL_best_138 (by decide) h (fun h => ?_) (fun h => ?_)
              · exact x_L_best_145 hk4 ih h
              · exact x_L_best_141 hk4 ih h
def f_L_best_88 (M : xM) (k4 : Int32 → Int32 → Option Int32) (i1 : Int32) (i2 : Int32) (i3 : Int32) (i4 : Int32) (s0 : Int32) : Option Int32 :=
  xl s0 fun v16 =>
  xl (0 : Int32) fun v17 =>
  f_L_best_92 M k4 xFU v16 i2 i3 i4 v17
set_option maxHeartbeats 1000000 in
theorem x_L_best_88 {ξ : xX} {M : xM} {k4 : Int32 → Int32 → Option Int32} {i1 : Int32} {i2 : Int32} {i3 : Int32} {i4 : Int32} {s0 : Int32} (hk4 : ∀ (j1 j2 : Int32) (z : Int32), k4 j1 j2 = some z → X ξ mL_best 4 [.ref 0, .int j1, .int j2] [] SH M 0 0 (xr (some (.int z)) SH M)) {z : Int32} (h : f_L_best_88 M k4 i1 i2 i3 i4 s0 = some z) : X ξ mL_best 88 [.ref 0, .int i1, .int i2, .int i3, .int i4] [.int s0] SH M 0 0 (xr (some (.int z)) SH M) := by
  rw [f_L_best_88] at h
  refine X_istoreL_n (fun v16 => [.ref 0, .int v16, .int i2, .int i3, .int i4]) dL_best_88 (Nat.le_of_ble_eq_true rfl) (Nat.le_of_ble_eq_true rfl) (xcat1_of rfl) h (fun _ => rfl) (fun v16 h => ?_)
  refine X_iconst 0 dL_best_89 rfl ?_
  refine X_istoreL (fun v17 => [.ref 0, .int v16, .int i2, .int i3, .int i4, .int v17]) dL_best_90 (Nat.le_of_ble_eq_true rfl) (Nat.le_of_ble_eq_true rfl) (xcat1_of rfl) h (fun _ => rfl) (fun v17 h => ?_)
  exact x_L_best_92 hk4 _ _ _ _ _ _ _ h
def f_L_best_83 (M : xM) (k4 : Int32 → Int32 → Option Int32) (i1 : Int32) (i2 : Int32) (i3 : Int32) (i4 : Int32) : Option Int32 :=
  f_L_best_88 M k4 i1 i2 i3 i4 1
set_option maxHeartbeats 1000000 in
theorem x_L_best_83 {ξ : xX} {M : xM} {k4 : Int32 → Int32 → Option Int32} {i1 : Int32} {i2 : Int32} {i3 : Int32} {i4 : Int32} (hk4 : ∀ (j1 j2 : Int32) (z : Int32), k4 j1 j2 = some z → X ξ mL_best 4 [.ref 0, .int j1, .int j2] [] SH M 0 0 (xr (some (.int z)) SH M)) {z : Int32} (h : f_L_best_83 M k4 i1 i2 i3 i4 = some z) : X ξ mL_best 83 [.ref 0, .int i1, .int i2, .int i3, .int i4] [] SH M 0 0 (xr (some (.int z)) SH M) := by
  rw [f_L_best_83] at h
  refine X_iconst 1 dL_best_83 rfl ?_
  refine X_goto 88 dL_best_84 (by decide) ?_
  exact x_L_best_88 hk4 h
def f_L_best_87 (M : xM) (k4 : Int32 → Int32 → Option Int32) (i1 : Int32) (i2 : Int32) (i3 : Int32) (i4 : Int32) : Option Int32 :=
  f_L_best_88 M k4 i1 i2 i3 i4 0
set_option maxHeartbeats 1000000 in
theorem x_L_best_87 {ξ : xX} {M : xM} {k4 : Int32 → Int32 → Option Int32} {i1 : Int32} {i2 : Int32} {i3 : Int32} {i4 : Int32} (hk4 : ∀ (j1 j2 : Int32) (z : Int32), k4 j1 j2 = some z → X ξ mL_best 4 [.ref 0, .int j1, .int j2] [] SH M 0 0 (xr (some (.int z)) SH M)) {z : Int32} (h : f_L_best_87 M k4 i1 i2 i3 i4 = some z) : X ξ mL_best 87 [.ref 0, .int i1, .int i2, .int i3, .int i4] [] SH M 0 0 (xr (some (.int z)) SH M) := by
  rw [f_L_best_87] at h
  refine X_iconst 0 dL_best_87 rfl ?_
  exact x_L_best_88 hk4 h
def f_L_best_37 (M : xM) (k4 : Int32 → Int32 → Option Int32) (i1 : Int32) (i2 : Int32) (i3 : Int32) (s0 : Int32) : Option Int32 :=
  xl s0 fun v18 =>
  if i3 = (-6) then (
    f_L_best_83 M k4 i1 i2 i3 v18)
  else (
    if v18 ≤ 0 then (
      f_L_best_87 M k4 i1 i2 i3 v18)
    else (
      xb (f_X8_pass M i3 0) fun v19 =>
      xb (f_X8_recording M i2 0) fun v20 =>
      if v19 = v20 then (
        xb (f_X8_recording M i2 1) fun v21 =>
        xb (f_X8_pass M i3 5) fun v22 =>
        if (v21 &&& (v22 ^^^ (-1))) = 0 then (
          f_L_best_83 M k4 i1 i2 i3 v18)
        else (
          f_L_best_87 M k4 i1 i2 i3 v18))
      else (
        f_L_best_87 M k4 i1 i2 i3 v18)))
set_option maxHeartbeats 1000000 in
theorem x_L_best_37 {ξ : xX} {M : xM} {k4 : Int32 → Int32 → Option Int32} {i1 : Int32} {i2 : Int32} {i3 : Int32} {s0 : Int32} (hk4 : ∀ (j1 j2 : Int32) (z : Int32), k4 j1 j2 = some z → X ξ mL_best 4 [.ref 0, .int j1, .int j2] [] SH M 0 0 (xr (some (.int z)) SH M)) {z : Int32} (h : f_L_best_37 M k4 i1 i2 i3 s0 = some z) : X ξ mL_best 37 [.ref 0, .int i1, .int i2, .int i3] [.int s0] SH M 0 0 (xr (some (.int z)) SH M) := by
  rw [f_L_best_37] at h
  refine X_istoreL (fun v18 => [.ref 0, .int i1, .int i2, .int i3, .int v18]) dL_best_37 (Nat.le_of_ble_eq_true rfl) (Nat.le_of_ble_eq_true rfl) (xcat1_of rfl) h (fun _ => rfl) (fun v18 h => ?_)
  refine X_iload_n (x := i3) dL_best_39 rfl ?_
  refine X_bipush (-6) dL_best_40 rfl ?_
  refine X_icmp_eq 83 dL_best_42 (by decide) h (fun h => ?_) (fun h => ?_)
  · exact x_L_best_83 hk4 h
  · refine X_iload (x := v18) dL_best_45 rfl ?_
    refine X_if_le 87 dL_best_47 (by decide) h (fun h => ?_) (fun h => ?_)
    · exact x_L_best_87 hk4 h
    · refine X_aload_n (x := 0) dL_best_50 rfl ?_
      refine X_iload_n (x := i3) dL_best_51 rfl ?_
      refine X_iconst 0 dL_best_52 rfl ?_
      refine X_vP (μ' := mX8_pass) [.int i3, .int 0] [] kL_RL_37 kM_X8_pass rv_0 rfl rfl rfl dL_best_53 h (fun _ hv => x_X8_pass hv) (fun v19 h => ?_)
      refine X_aload_n (x := 0) dL_best_56 rfl ?_
      refine X_iload_n (x := i2) dL_best_57 rfl ?_
      refine X_iconst 0 dL_best_58 rfl ?_
      refine X_vP (μ' := mX8_recording) [.int i2, .int 0] [.int v19] kL_RL_49 kM_X8_recording rv_0 rfl rfl rfl dL_best_59 h (fun _ hv => x_X8_recording hv) (fun v20 h => ?_)
      refine X_icmp_ne 87 dL_best_62 (by decide) h (fun h => ?_) (fun h => ?_)
      · exact x_L_best_87 hk4 h
      · refine X_aload_n (x := 0) dL_best_65 rfl ?_
        refine X_iload_n (x := i2) dL_best_66 rfl ?_
        refine X_iconst 1 dL_best_67 rfl ?_
        refine X_vP (μ' := mX8_recording) [.int i2, .int 1] [] kL_RL_49 kM_X8_recording rv_0 rfl rfl rfl dL_best_68 h (fun _ hv => x_X8_recording hv) (fun v21 h => ?_)
        refine X_aload_n (x := 0) dL_best_71 rfl ?_
        refine X_iload_n (x := i3) dL_best_72 rfl ?_
        refine X_iconst 5 dL_best_73 rfl ?_
        refine X_vP (μ' := mX8_pass) [.int i3, .int 5] [.int v21] kL_RL_37 kM_X8_pass rv_0 rfl rfl rfl dL_best_74 h (fun _ hv => x_X8_pass hv) (fun v22 h => ?_)
        refine X_iconst (-1) dL_best_77 rfl ?_
        refine X_ixor dL_best_78 ?_
        refine X_iand dL_best_79 ?_
        refine X_if_ne 87 dL_best_80 (by decide) h (fun h => ?_) (fun h => ?_)
        · exact x_L_best_87 hk4 h
        · exact x_L_best_83 hk4 h
def f_L_best_4 (M : xM) : Nat → Int32 → Int32 → Option Int32
  | 0, _, _ => none
  | fu + 1, i1, i2 =>
    xb (f_X8_total M 3) fun v23 =>
    if v23 ≤ i2 then (
      xgd (xz i1) (some i1))
    else (
      if i1 = 0 then (
        xgd (xz i1) (some i1))
      else (
        xb (f_X8_bestPass M i2) fun v24 =>
        xl v24 fun v25 =>
        if 0 ≤ v25 then (
          xb (f_X8_quality M v25 i2) fun v26 =>
          f_L_best_37 M (f_L_best_4 M fu) i1 i2 v25 v26)
        else (
          f_L_best_37 M (f_L_best_4 M fu) i1 i2 v25 0)))
set_option maxHeartbeats 1000000 in
theorem x_L_best_4 {ξ : xX} {M : xM} : ∀ (fu : Nat) (i1 i2 : Int32) (z : Int32), f_L_best_4 M fu i1 i2 = some z → X ξ mL_best 4 [.ref 0, .int i1, .int i2] [] SH M 0 0 (xr (some (.int z)) SH M) := by
  intro fu
  induction fu with
  | zero => intro i1 i2 z h; rw [f_L_best_4] at h; cases h
  | succ fu ih =>
    intro i1 i2 z h
    rw [f_L_best_4] at h
    refine X_iload_n (x := i2) dL_best_4 rfl ?_
    refine X_aload_n (x := 0) dL_best_5 rfl ?_
    refine X_iconst 3 dL_best_6 rfl ?_
    refine X_vP (μ' := mX8_total) [.int 3] [.int i2] kL_RL_9 kM_X8_total rv_0 rfl rfl rfl dL_best_7 h (fun _ hv => x_X8_total hv) (fun v23 h => ?_)
    refine X_icmp_ge 159 dL_best_10 (by decide) h (fun h => ?_) (fun h => ?_)
    · refine X_iload_n (x := i1) dL_best_159 rfl ?_
      exact X_retZ dL_best_160 rfl (Nat.le_refl _) (Nat.le_refl _) h
    · refine X_iload_n (x := i1) dL_best_13 rfl ?_
      refine X_if_eq 159 dL_best_14 (by decide) h (fun h => ?_) (fun h => ?_)
      · refine X_iload_n (x := i1) dL_best_159 rfl ?_
        exact X_retZ dL_best_160 rfl (Nat.le_refl _) (Nat.le_refl _) h
      · refine X_aload_n (x := 0) dL_best_17 rfl ?_
        refine X_iload_n (x := i2) dL_best_18 rfl ?_
        refine X_vP (μ' := mX8_bestPass) [.int i2] [] kL_RL_46 kM_X8_bestPass rv_0 rfl rfl rfl dL_best_19 h (fun _ hv => x_X8_bestPass hv) (fun v24 h => ?_)
        refine X_istoreL_n (fun v25 => [.ref 0, .int i1, .int i2, .int v25]) dL_best_22 (Nat.le_of_ble_eq_true rfl) (Nat.le_of_ble_eq_true rfl) (xcat1_of rfl) h (fun _ => rfl) (fun v25 h => ?_)
        refine X_iload_n (x := v25) dL_best_23 rfl ?_
        refine X_if_ge 31 dL_best_24 (by decide) h (fun h => ?_) (fun h => ?_)
        · refine X_aload_n (x := 0) dL_best_31 rfl ?_
          refine X_iload_n (x := v25) dL_best_32 rfl ?_
          refine X_iload_n (x := i2) dL_best_33 rfl ?_
          refine X_vP (μ' := mX8_quality) [.int v25, .int i2] [] kL_RL_28 kM_X8_quality rv_0 rfl rfl rfl dL_best_34 h (fun _ hv => x_X8_quality hv) (fun v26 h => ?_)
          exact x_L_best_37 ih h
        · refine X_iconst 0 dL_best_27 rfl ?_
          refine X_goto 37 dL_best_28 (by decide) ?_
          exact x_L_best_37 ih h
def f_L_best (M : xM) : Option Int32 :=
  xl (1 : Int32) fun v27 =>
  xl (0 : Int32) fun v28 =>
  f_L_best_4 M xFU v27 v28
set_option maxHeartbeats 1000000 in
theorem x_L_best {ξ : xX} {M : xM} {z : Int32} (h : f_L_best M = some z) : X ξ mL_best 0 [.ref 0] [] SH M 0 0 (xr (some (.int z)) SH M) := by
  rw [f_L_best] at h
  refine X_iconst 1 dL_best_0 rfl ?_
  refine X_istoreL_n (fun v27 => [.ref 0, .int v27]) dL_best_1 (Nat.le_of_ble_eq_true rfl) (Nat.le_of_ble_eq_true rfl) (xcat1_of rfl) h (fun _ => rfl) (fun v27 h => ?_)
  refine X_iconst 0 dL_best_2 rfl ?_
  refine X_istoreL_n (fun v28 => [.ref 0, .int v27, .int v28]) dL_best_3 (Nat.le_of_ble_eq_true rfl) (Nat.le_of_ble_eq_true rfl) (xcat1_of rfl) h (fun _ => rfl) (fun v28 h => ?_)
  exact x_L_best_4 _ _ _ _ h
def f_L_plays_168 (M : xM) (i1 : Int32) (i2 : Int32) (i3 : Int32) (i4 : Int32) (i5 : Int32) (i6 : Int32) (i7 : Int32) (i8 : Int32) (s0 : Int32) (s1 : Int32) : Option (Int32 × xM) :=
  if s0 = s1 then (
    some (1, M))
  else (
    some (0, M))
set_option maxHeartbeats 1000000 in
theorem x_L_plays_168 {ξ : xX} {M : xM} {i1 : Int32} {i2 : Int32} {i3 : Int32} {i4 : Int32} {i5 : Int32} {i6 : Int32} {i7 : Int32} {i8 : Int32} {s0 : Int32} {s1 : Int32} {z : (Int32 × xM)} (h : f_L_plays_168 M i1 i2 i3 i4 i5 i6 i7 i8 s0 s1 = some z) : X ξ mL_plays 168 [.ref 0, .int i1, .int i2, .int i3, .int i4, .int i5, .int i6, .int i7, .int i8] [.int s1, .int s0] SH M 0 0 (xr (some (.int z.1)) SH z.2) := by
  rw [f_L_plays_168] at h
  refine X_icmp_ne 175 dL_plays_168 (by decide) h (fun h => ?_) (fun h => ?_)
  · refine X_iconst 0 dL_plays_175 rfl ?_
    exact X_retL (by decide) dL_plays_176 rfl (Nat.le_refl _) (Nat.le_refl _) h
  · refine X_iconst 1 dL_plays_171 rfl ?_
    refine X_goto 176 dL_plays_172 (by decide) ?_
    exact X_retL (by decide) dL_plays_176 rfl (Nat.le_refl _) (Nat.le_refl _) h
def f_L_plays_153 (M : xM) (i1 : Int32) (i2 : Int32) (i3 : Int32) (i4 : Int32) (i5 : Int32) (i6 : Int32) (i7 : Int32) (i8 : Int32) (s0 : Int32) : Option (Int32 × xM) :=
  xb (f_X8_total M 11) fun v8 =>
  if v8 = 1 then (
    f_L_plays_168 M i1 i2 i3 i4 i5 i6 i7 i8 s0 1)
  else (
    f_L_plays_168 M i1 i2 i3 i4 i5 i6 i7 i8 s0 0)
set_option maxHeartbeats 1000000 in
theorem x_L_plays_153 {ξ : xX} {M : xM} {i1 : Int32} {i2 : Int32} {i3 : Int32} {i4 : Int32} {i5 : Int32} {i6 : Int32} {i7 : Int32} {i8 : Int32} {s0 : Int32} {z : (Int32 × xM)} (h : f_L_plays_153 M i1 i2 i3 i4 i5 i6 i7 i8 s0 = some z) : X ξ mL_plays 153 [.ref 0, .int i1, .int i2, .int i3, .int i4, .int i5, .int i6, .int i7, .int i8] [.int s0] SH M 0 0 (xr (some (.int z.1)) SH z.2) := by
  rw [f_L_plays_153] at h
  refine X_aload_n (x := 0) dL_plays_153 rfl ?_
  refine X_bipush 11 dL_plays_154 rfl ?_
  refine X_vP (μ' := mX8_total) [.int 11] [.int s0] kL_RL_9 kM_X8_total rv_0 rfl rfl rfl dL_plays_156 h (fun _ hv => x_X8_total hv) (fun v8 h => ?_)
  refine X_iconst 1 dL_plays_159 rfl ?_
  refine X_icmp_ne 167 dL_plays_160 (by decide) h (fun h => ?_) (fun h => ?_)
  · refine X_iconst 0 dL_plays_167 rfl ?_
    exact x_L_plays_168 h
  · refine X_iconst 1 dL_plays_163 rfl ?_
    refine X_goto 168 dL_plays_164 (by decide) ?_
    exact x_L_plays_168 h
def f_L_plays_222 (M : xM) (i1 : Int32) (i2 : Int32) (i3 : Int32) (i4 : Int32) (i5 : Int32) (i6 : Int32) (i7 : Int32) (i8 : Int32) (s0 : Int32) (s1 : Int32) (s2 : Int32) : Option (Int32 × xM) :=
  if s0 = (s1 - s2) then (
    some (1, M))
  else (
    some (0, M))
set_option maxHeartbeats 1000000 in
theorem x_L_plays_222 {ξ : xX} {M : xM} {i1 : Int32} {i2 : Int32} {i3 : Int32} {i4 : Int32} {i5 : Int32} {i6 : Int32} {i7 : Int32} {i8 : Int32} {s0 : Int32} {s1 : Int32} {s2 : Int32} {z : (Int32 × xM)} (h : f_L_plays_222 M i1 i2 i3 i4 i5 i6 i7 i8 s0 s1 s2 = some z) : X ξ mL_plays 222 [.ref 0, .int i1, .int i2, .int i3, .int i4, .int i5, .int i6, .int i7, .int i8] [.int s2, .int s1, .int s0] SH M 0 0 (xr (some (.int z.1)) SH z.2) := by
  rw [f_L_plays_222] at h
  refine X_isub dL_plays_222 ?_
  refine X_icmp_ne 230 dL_plays_223 (by decide) h (fun h => ?_) (fun h => ?_)
  · refine X_iconst 0 dL_plays_230 rfl ?_
    exact X_retL (by decide) dL_plays_231 rfl (Nat.le_refl _) (Nat.le_refl _) h
  · refine X_iconst 1 dL_plays_226 rfl ?_
    refine X_goto 231 dL_plays_227 (by decide) ?_
    exact X_retL (by decide) dL_plays_231 rfl (Nat.le_refl _) (Nat.le_refl _) h
def f_L_plays (M : xM) (a1 : Int32) : Option (Int32 × xM) :=
  xb (f_X8_total M 1) fun v9 =>
  if v9 = 0 then none else
  xl (a1 - a1 / v9 * v9) fun v10 =>
  xb (f_X8_total M 2) fun v11 =>
  if v11 = 0 then none else
  xl (((a1 : Int32) >>> ((3 : Int32) &&& 31)) - ((a1 : Int32) >>> ((3 : Int32) &&& 31)) / v11 * v11) fun v12 =>
  xb (f_X8_machine M v12 0) fun v13 =>
  xb (f_L_speed v13 (((a1 : Int32) >>> ((6 : Int32) &&& 31)) - ((a1 : Int32) >>> ((6 : Int32) &&& 31)) / 3 * 3)) fun v14 =>
  xl v14 fun v15 =>
  xl (((a1 : Int32) >>> ((9 : Int32) &&& 31)) &&& 1) fun v16 =>
  xb (f_X8_heard M v10 v12 v15 v16 0) fun v17 =>
  xl v17 fun v18 =>
  xb (f_X8_carrier M v10 4) fun v19 =>
  xl v19 fun v20 =>
  xb2 (f_X8_transfer M v10 v12 v15 v16) fun v21 M22 =>
  xl v21 fun v23 =>
  if 0 ≤ v23 then (
    xb (f_X8_total M22 11) fun v24 =>
    if v24 = 0 then (
      xb (f_X8_captured M22 v23 0) fun v25 =>
      if v25 = v18 then (
        xb (f_X8_carrier M22 v10 4) fun v26 =>
        xb (f_X8_carrier M22 v10 1) fun v27 =>
        if v15 ≤ v27 then (
          f_L_plays_222 M22 a1 v10 v12 v15 v16 v18 v20 v23 v26 v20 1)
        else (
          f_L_plays_222 M22 a1 v10 v12 v15 v16 v18 v20 v23 v26 v20 2))
      else (
        some (0, M22)))
    else (
      some (0, M22)))
  else (
    if v23 = (-2) then (
      if v18 = (-2) then (
        some (1, M22))
      else (
        some (0, M22)))
    else (
      if v23 = (-5) then (
        xb (f_X8_total M22 11) fun v28 =>
        if v28 ≤ 0 then (
          some (0, M22))
        else (
          xb (f_X8_total M22 11) fun v29 =>
          if 6 ≤ v29 then (
            some (0, M22))
          else (
            xb (f_X8_carrier M22 v10 4) fun v30 =>
            if v30 = v20 then (
              if v18 = (-3) then (
                f_L_plays_153 M22 a1 v10 v12 v15 v16 v18 v20 v23 1)
              else (
                f_L_plays_153 M22 a1 v10 v12 v15 v16 v18 v20 v23 0))
            else (
              some (0, M22)))))
      else (
        some (0, M22))))
set_option maxHeartbeats 1000000 in
theorem x_L_plays {ξ : xX} {M : xM} {a1 : Int32} {z : (Int32 × xM)} (h : f_L_plays M a1 = some z) : X ξ mL_plays 0 [.ref 0, .int a1] [] SH M 0 0 (xr (some (.int z.1)) SH z.2) := by
  rw [f_L_plays] at h
  refine X_iload_n (x := a1) dL_plays_0 rfl ?_
  refine X_aload_n (x := 0) dL_plays_1 rfl ?_
  refine X_iconst 1 dL_plays_2 rfl ?_
  refine X_vP (μ' := mX8_total) [.int 1] [.int a1] kL_RL_9 kM_X8_total rv_0 rfl rfl rfl dL_plays_3 h (fun _ hv => x_X8_total hv) (fun v9 h => ?_)
  refine X_iremG dL_plays_6 h (fun h => ?_)
  refine X_istoreL_n (fun v10 => [.ref 0, .int a1, .int v10]) dL_plays_7 (Nat.le_of_ble_eq_true rfl) (Nat.le_of_ble_eq_true rfl) (xcat1_of rfl) h (fun _ => rfl) (fun v10 h => ?_)
  refine X_iload_n (x := a1) dL_plays_8 rfl ?_
  refine X_iconst 3 dL_plays_9 rfl ?_
  refine X_ishr dL_plays_10 ?_
  refine X_aload_n (x := 0) dL_plays_11 rfl ?_
  refine X_iconst 2 dL_plays_12 rfl ?_
  refine X_vP (μ' := mX8_total) [.int 2] [.int ((a1 : Int32) >>> ((3 : Int32) &&& 31))] kL_RL_9 kM_X8_total rv_0 rfl rfl rfl dL_plays_13 h (fun _ hv => x_X8_total hv) (fun v11 h => ?_)
  refine X_iremG dL_plays_16 h (fun h => ?_)
  refine X_istoreL_n (fun v12 => [.ref 0, .int a1, .int v10, .int v12]) dL_plays_17 (Nat.le_of_ble_eq_true rfl) (Nat.le_of_ble_eq_true rfl) (xcat1_of rfl) h (fun _ => rfl) (fun v12 h => ?_)
  refine X_aload_n (x := 0) dL_plays_18 rfl ?_
  refine X_iload_n (x := v12) dL_plays_19 rfl ?_
  refine X_iconst 0 dL_plays_20 rfl ?_
  refine X_vP (μ' := mX8_machine) [.int v12, .int 0] [] kL_RL_34 kM_X8_machine rv_0 rfl rfl rfl dL_plays_21 h (fun _ hv => x_X8_machine hv) (fun v13 h => ?_)
  refine X_iload_n (x := a1) dL_plays_24 rfl ?_
  refine X_bipush 6 dL_plays_25 rfl ?_
  refine X_ishr dL_plays_27 ?_
  refine X_iconst 3 dL_plays_28 rfl ?_
  refine X_irem (by decide) dL_plays_29 ?_
  refine X_sP (μ' := mL_speed) [.int v13, .int (((a1 : Int32) >>> ((6 : Int32) &&& 31)) - ((a1 : Int32) >>> ((6 : Int32) &&& 31)) / 3 * 3)] [] kL_RL_52 kM_L_speed rfl rfl rfl dL_plays_30 h (fun _ hv => x_L_speed hv) (fun v14 h => ?_)
  refine X_istoreL (fun v15 => [.ref 0, .int a1, .int v10, .int v12, .int v15]) dL_plays_33 (Nat.le_of_ble_eq_true rfl) (Nat.le_of_ble_eq_true rfl) (xcat1_of rfl) h (fun _ => rfl) (fun v15 h => ?_)
  refine X_iload_n (x := a1) dL_plays_35 rfl ?_
  refine X_bipush 9 dL_plays_36 rfl ?_
  refine X_ishr dL_plays_38 ?_
  refine X_iconst 1 dL_plays_39 rfl ?_
  refine X_iand dL_plays_40 ?_
  refine X_istoreL (fun v16 => [.ref 0, .int a1, .int v10, .int v12, .int v15, .int v16]) dL_plays_41 (Nat.le_of_ble_eq_true rfl) (Nat.le_of_ble_eq_true rfl) (xcat1_of rfl) h (fun _ => rfl) (fun v16 h => ?_)
  refine X_aload_n (x := 0) dL_plays_43 rfl ?_
  refine X_iload_n (x := v10) dL_plays_44 rfl ?_
  refine X_iload_n (x := v12) dL_plays_45 rfl ?_
  refine X_iload (x := v15) dL_plays_46 rfl ?_
  refine X_iload (x := v16) dL_plays_48 rfl ?_
  refine X_iconst 0 dL_plays_50 rfl ?_
  refine X_vP (μ' := mX8_heard) [.int v10, .int v12, .int v15, .int v16, .int 0] [] kL_RL_57 kM_X8_heard rv_0 rfl rfl rfl dL_plays_51 h (fun _ hv => x_X8_heard hv) (fun v17 h => ?_)
  refine X_istoreL (fun v18 => [.ref 0, .int a1, .int v10, .int v12, .int v15, .int v16, .int v18]) dL_plays_54 (Nat.le_of_ble_eq_true rfl) (Nat.le_of_ble_eq_true rfl) (xcat1_of rfl) h (fun _ => rfl) (fun v18 h => ?_)
  refine X_aload_n (x := 0) dL_plays_56 rfl ?_
  refine X_iload_n (x := v10) dL_plays_57 rfl ?_
  refine X_iconst 4 dL_plays_58 rfl ?_
  refine X_vP (μ' := mX8_carrier) [.int v10, .int 4] [] kL_RL_31 kM_X8_carrier rv_0 rfl rfl rfl dL_plays_59 h (fun _ hv => x_X8_carrier hv) (fun v19 h => ?_)
  refine X_istoreL (fun v20 => [.ref 0, .int a1, .int v10, .int v12, .int v15, .int v16, .int v18, .int v20]) dL_plays_62 (Nat.le_of_ble_eq_true rfl) (Nat.le_of_ble_eq_true rfl) (xcat1_of rfl) h (fun _ => rfl) (fun v20 h => ?_)
  refine X_aload_n (x := 0) dL_plays_64 rfl ?_
  refine X_iload_n (x := v10) dL_plays_65 rfl ?_
  refine X_iload_n (x := v12) dL_plays_66 rfl ?_
  refine X_iload (x := v15) dL_plays_67 rfl ?_
  refine X_iload (x := v16) dL_plays_69 rfl ?_
  refine X_vI (μ' := mX8_transfer) [.int v10, .int v12, .int v15, .int v16] [] kL_RL_61 kM_X8_transfer rv_0 rfl rfl rfl dL_plays_71 h (fun _ hv => x_X8_transfer hv) (fun v21 M22 h => ?_)
  refine X_istoreL (fun v23 => [.ref 0, .int a1, .int v10, .int v12, .int v15, .int v16, .int v18, .int v20, .int v23]) dL_plays_74 (Nat.le_of_ble_eq_true rfl) (Nat.le_of_ble_eq_true rfl) (xcat1_of rfl) h (fun _ => rfl) (fun v23 h => ?_)
  refine X_iload (x := v23) dL_plays_76 rfl ?_
  refine X_if_ge 177 dL_plays_78 (by decide) h (fun h => ?_) (fun h => ?_)
  · refine X_aload_n (x := 0) dL_plays_177 rfl ?_
    refine X_bipush 11 dL_plays_178 rfl ?_
    refine X_vP (μ' := mX8_total) [.int 11] [] kL_RL_9 kM_X8_total rv_0 rfl rfl rfl dL_plays_180 h (fun _ hv => x_X8_total hv) (fun v24 h => ?_)
    refine X_if_ne 230 dL_plays_183 (by decide) h (fun h => ?_) (fun h => ?_)
    · refine X_iconst 0 dL_plays_230 rfl ?_
      exact X_retL (by decide) dL_plays_231 rfl (Nat.le_refl _) (Nat.le_refl _) h
    · refine X_aload_n (x := 0) dL_plays_186 rfl ?_
      refine X_iload (x := v23) dL_plays_187 rfl ?_
      refine X_iconst 0 dL_plays_189 rfl ?_
      refine X_vP (μ' := mX8_captured) [.int v23, .int 0] [] kL_RL_43 kM_X8_captured rv_0 rfl rfl rfl dL_plays_190 h (fun _ hv => x_X8_captured hv) (fun v25 h => ?_)
      refine X_iload (x := v18) dL_plays_193 rfl ?_
      refine X_icmp_ne 230 dL_plays_195 (by decide) h (fun h => ?_) (fun h => ?_)
      · refine X_iconst 0 dL_plays_230 rfl ?_
        exact X_retL (by decide) dL_plays_231 rfl (Nat.le_refl _) (Nat.le_refl _) h
      · refine X_aload_n (x := 0) dL_plays_198 rfl ?_
        refine X_iload_n (x := v10) dL_plays_199 rfl ?_
        refine X_iconst 4 dL_plays_200 rfl ?_
        refine X_vP (μ' := mX8_carrier) [.int v10, .int 4] [] kL_RL_31 kM_X8_carrier rv_0 rfl rfl rfl dL_plays_201 h (fun _ hv => x_X8_carrier hv) (fun v26 h => ?_)
        refine X_iload (x := v20) dL_plays_204 rfl ?_
        refine X_iload (x := v15) dL_plays_206 rfl ?_
        refine X_aload_n (x := 0) dL_plays_208 rfl ?_
        refine X_iload_n (x := v10) dL_plays_209 rfl ?_
        refine X_iconst 1 dL_plays_210 rfl ?_
        refine X_vP (μ' := mX8_carrier) [.int v10, .int 1] [.int v15, .int v20, .int v26] kL_RL_31 kM_X8_carrier rv_0 rfl rfl rfl dL_plays_211 h (fun _ hv => x_X8_carrier hv) (fun v27 h => ?_)
        refine X_icmp_le 221 dL_plays_214 (by decide) h (fun h => ?_) (fun h => ?_)
        · refine X_iconst 1 dL_plays_221 rfl ?_
          exact x_L_plays_222 h
        · refine X_iconst 2 dL_plays_217 rfl ?_
          refine X_goto 222 dL_plays_218 (by decide) ?_
          exact x_L_plays_222 h
  · refine X_iload (x := v23) dL_plays_81 rfl ?_
    refine X_bipush (-2) dL_plays_83 rfl ?_
    refine X_icmp_ne 103 dL_plays_85 (by decide) h (fun h => ?_) (fun h => ?_)
    · refine X_iload (x := v23) dL_plays_103 rfl ?_
      refine X_bipush (-5) dL_plays_105 rfl ?_
      refine X_icmp_ne 175 dL_plays_107 (by decide) h (fun h => ?_) (fun h => ?_)
      · refine X_iconst 0 dL_plays_175 rfl ?_
        exact X_retL (by decide) dL_plays_176 rfl (Nat.le_refl _) (Nat.le_refl _) h
      · refine X_aload_n (x := 0) dL_plays_110 rfl ?_
        refine X_bipush 11 dL_plays_111 rfl ?_
        refine X_vP (μ' := mX8_total) [.int 11] [] kL_RL_9 kM_X8_total rv_0 rfl rfl rfl dL_plays_113 h (fun _ hv => x_X8_total hv) (fun v28 h => ?_)
        refine X_if_le 175 dL_plays_116 (by decide) h (fun h => ?_) (fun h => ?_)
        · refine X_iconst 0 dL_plays_175 rfl ?_
          exact X_retL (by decide) dL_plays_176 rfl (Nat.le_refl _) (Nat.le_refl _) h
        · refine X_aload_n (x := 0) dL_plays_119 rfl ?_
          refine X_bipush 11 dL_plays_120 rfl ?_
          refine X_vP (μ' := mX8_total) [.int 11] [] kL_RL_9 kM_X8_total rv_0 rfl rfl rfl dL_plays_122 h (fun _ hv => x_X8_total hv) (fun v29 h => ?_)
          refine X_bipush 6 dL_plays_125 rfl ?_
          refine X_icmp_ge 175 dL_plays_127 (by decide) h (fun h => ?_) (fun h => ?_)
          · refine X_iconst 0 dL_plays_175 rfl ?_
            exact X_retL (by decide) dL_plays_176 rfl (Nat.le_refl _) (Nat.le_refl _) h
          · refine X_aload_n (x := 0) dL_plays_130 rfl ?_
            refine X_iload_n (x := v10) dL_plays_131 rfl ?_
            refine X_iconst 4 dL_plays_132 rfl ?_
            refine X_vP (μ' := mX8_carrier) [.int v10, .int 4] [] kL_RL_31 kM_X8_carrier rv_0 rfl rfl rfl dL_plays_133 h (fun _ hv => x_X8_carrier hv) (fun v30 h => ?_)
            refine X_iload (x := v20) dL_plays_136 rfl ?_
            refine X_icmp_ne 175 dL_plays_138 (by decide) h (fun h => ?_) (fun h => ?_)
            · refine X_iconst 0 dL_plays_175 rfl ?_
              exact X_retL (by decide) dL_plays_176 rfl (Nat.le_refl _) (Nat.le_refl _) h
            · refine X_iload (x := v18) dL_plays_141 rfl ?_
              refine X_bipush (-3) dL_plays_143 rfl ?_
              refine X_icmp_ne 152 dL_plays_145 (by decide) h (fun h => ?_) (fun h => ?_)
              · refine X_iconst 0 dL_plays_152 rfl ?_
                exact x_L_plays_153 h
              · refine X_iconst 1 dL_plays_148 rfl ?_
                refine X_goto 153 dL_plays_149 (by decide) ?_
                exact x_L_plays_153 h
    · refine X_iload (x := v18) dL_plays_88 rfl ?_
      refine X_bipush (-2) dL_plays_90 rfl ?_
      refine X_icmp_ne 99 dL_plays_92 (by decide) h (fun h => ?_) (fun h => ?_)
      · refine X_iconst 0 dL_plays_99 rfl ?_
        refine X_goto 176 dL_plays_100 (by decide) ?_
        exact X_retL (by decide) dL_plays_176 rfl (Nat.le_refl _) (Nat.le_refl _) h
      · refine X_iconst 1 dL_plays_95 rfl ?_
        refine X_goto 176 dL_plays_96 (by decide) ?_
        exact X_retL (by decide) dL_plays_176 rfl (Nat.le_refl _) (Nat.le_refl _) h
