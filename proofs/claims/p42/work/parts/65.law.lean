abbrev mL_law : xD := (yL_law, cL_law, 7, some .boolean, 11, 476, 600000, 7302250)
def f_L_law_192 (ξ : xX) (k42 : xM → Int32 → Int32 → Int32 → Option (Int32 × xM)) (M : xM) (i2 : Int32) (i3 : Int32) (i4 : Int32) (i5 : Int32) (i6 : Int32) (s0 : Int32) : Option (Int32 × xM) :=
  xl s0 fun v16 =>
  xl (i4 + 1) fun v17 =>
  k42 M i2 v16 v17
set_option maxHeartbeats 1000000 in
theorem x_L_law_192 {ξ : xX} {M : xM} {k42 : xM → Int32 → Int32 → Int32 → Option (Int32 × xM)} {i2 : Int32} {i3 : Int32} {i4 : Int32} {i5 : Int32} {i6 : Int32} {s0 : Int32} (hk42 : ∀ (M : xM) (j2 j3 j4 : Int32) (z : (Int32 × xM)), k42 M j2 j3 j4 = some z → X ξ mL_law 42 [.float 3, .ref 0, .int j2, .int j3, .int j4] [] SH M 149 8418 (xr (some (.int z.1)) SH z.2)) {z : (Int32 × xM)} (h : f_L_law_192 ξ k42 M i2 i3 i4 i5 i6 s0 = some z) : X ξ mL_law 192 [.float 3, .ref 0, .int i2, .int i3, .int i4, .int i5, .int i6] [.int s0] SH M 149 8418 (xr (some (.int z.1)) SH z.2) := by
  rw [f_L_law_192] at h
  refine X_istoreL_n (fun v16 => [.float 3, .ref 0, .int i2, .int v16, .int i4, .int i5, .int i6]) dL_law_192 (Nat.le_of_ble_eq_true rfl) (Nat.le_of_ble_eq_true rfl) (xcat1_of rfl) h (fun _ => rfl) (fun v16 h => ?_)
  refine X_iincL (x := i4) 1 (fun v17 => [.float 3, .ref 0, .int i2, .int v16, .int v17, .int i5, .int i6]) dL_law_193 rfl rfl (Nat.le_of_ble_eq_true rfl) (xcat1_of rfl) h (fun _ => rfl) (fun v17 h => ?_)
  refine X_goto 42 dL_law_196 (by decide) ?_
  refine X_cut 5 ?_
  exact hk42 _ _ _ _ _ h
def f_L_law_187 (ξ : xX) (k42 : xM → Int32 → Int32 → Int32 → Option (Int32 × xM)) (M : xM) (i2 : Int32) (i3 : Int32) (i4 : Int32) (i5 : Int32) (i6 : Int32) : Option (Int32 × xM) :=
  f_L_law_192 ξ k42 M i2 i3 i4 i5 i6 1
set_option maxHeartbeats 1000000 in
theorem x_L_law_187 {ξ : xX} {M : xM} {k42 : xM → Int32 → Int32 → Int32 → Option (Int32 × xM)} {i2 : Int32} {i3 : Int32} {i4 : Int32} {i5 : Int32} {i6 : Int32} (hk42 : ∀ (M : xM) (j2 j3 j4 : Int32) (z : (Int32 × xM)), k42 M j2 j3 j4 = some z → X ξ mL_law 42 [.float 3, .ref 0, .int j2, .int j3, .int j4] [] SH M 149 8418 (xr (some (.int z.1)) SH z.2)) {z : (Int32 × xM)} (h : f_L_law_187 ξ k42 M i2 i3 i4 i5 i6 = some z) : X ξ mL_law 187 [.float 3, .ref 0, .int i2, .int i3, .int i4, .int i5, .int i6] [] SH M 149 8418 (xr (some (.int z.1)) SH z.2) := by
  rw [f_L_law_187] at h
  refine X_iconst 1 dL_law_187 rfl ?_
  refine X_goto 192 dL_law_188 (by decide) ?_
  exact x_L_law_192 hk42 h
def f_L_law_191 (ξ : xX) (k42 : xM → Int32 → Int32 → Int32 → Option (Int32 × xM)) (M : xM) (i2 : Int32) (i3 : Int32) (i4 : Int32) (i5 : Int32) (i6 : Int32) : Option (Int32 × xM) :=
  f_L_law_192 ξ k42 M i2 i3 i4 i5 i6 0
set_option maxHeartbeats 1000000 in
theorem x_L_law_191 {ξ : xX} {M : xM} {k42 : xM → Int32 → Int32 → Int32 → Option (Int32 × xM)} {i2 : Int32} {i3 : Int32} {i4 : Int32} {i5 : Int32} {i6 : Int32} (hk42 : ∀ (M : xM) (j2 j3 j4 : Int32) (z : (Int32 × xM)), k42 M j2 j3 j4 = some z → X ξ mL_law 42 [.float 3, .ref 0, .int j2, .int j3, .int j4] [] SH M 149 8418 (xr (some (.int z.1)) SH z.2)) {z : (Int32 × xM)} (h : f_L_law_191 ξ k42 M i2 i3 i4 i5 i6 = some z) : X ξ mL_law 191 [.float 3, .ref 0, .int i2, .int i3, .int i4, .int i5, .int i6] [] SH M 149 8418 (xr (some (.int z.1)) SH z.2) := by
  rw [f_L_law_191] at h
  refine X_iconst 0 dL_law_191 rfl ?_
  exact x_L_law_192 hk42 h
def f_L_law_158 (ξ : xX) (k42 : xM → Int32 → Int32 → Int32 → Option (Int32 × xM)) (M : xM) (i2 : Int32) (i3 : Int32) (i4 : Int32) (i5 : Int32) (i6 : Int32) (s1 : Int32) (s2 : Int32) : Option (Int32 × xM) :=
  xb (f_L_layout i6 ((i5 : Int32) >>> ((8 : Int32) &&& 31))) fun v18 =>
  xb2 (f_X8_addMachine M s1 s2 v18 (10 + (((i5 : Int32) >>> ((12 : Int32) &&& 31)) - ((i5 : Int32) >>> ((12 : Int32) &&& 31)) / 91 * 91))) fun v19 M20 =>
  if v19 = i4 then (
    f_L_law_187 ξ k42 M20 i2 i3 i4 i5 i6)
  else (
    f_L_law_191 ξ k42 M20 i2 i3 i4 i5 i6)
set_option maxHeartbeats 1000000 in
theorem x_L_law_158 {ξ : xX} {M : xM} {k42 : xM → Int32 → Int32 → Int32 → Option (Int32 × xM)} {i2 : Int32} {i3 : Int32} {i4 : Int32} {i5 : Int32} {i6 : Int32} {s1 : Int32} {s2 : Int32} (hk42 : ∀ (M : xM) (j2 j3 j4 : Int32) (z : (Int32 × xM)), k42 M j2 j3 j4 = some z → X ξ mL_law 42 [.float 3, .ref 0, .int j2, .int j3, .int j4] [] SH M 149 8418 (xr (some (.int z.1)) SH z.2)) {z : (Int32 × xM)} (h : f_L_law_158 ξ k42 M i2 i3 i4 i5 i6 s1 s2 = some z) : X ξ mL_law 158 [.float 3, .ref 0, .int i2, .int i3, .int i4, .int i5, .int i6] [.int s2, .int s1, .ref 0] SH M 149 8418 (xr (some (.int z.1)) SH z.2) := by
  rw [f_L_law_158] at h
  refine X_iload (x := i6) dL_law_158 rfl ?_
  refine X_iload (x := i5) dL_law_160 rfl ?_
  refine X_bipush 8 dL_law_162 rfl ?_
  refine X_ishr dL_law_164 ?_
  refine X_sP (μ' := mL_layout) [.int i6, .int ((i5 : Int32) >>> ((8 : Int32) &&& 31))] [.int s2, .int s1, .ref 0] kL_RL_112 kM_L_layout rfl rfl rfl dL_law_165 h (fun _ hv => x_L_layout hv) (fun v18 h => ?_)
  refine X_bipush 10 dL_law_168 rfl ?_
  refine X_iload (x := i5) dL_law_170 rfl ?_
  refine X_bipush 12 dL_law_172 rfl ?_
  refine X_ishr dL_law_174 ?_
  refine X_bipush 91 dL_law_175 rfl ?_
  refine X_irem (by decide) dL_law_177 ?_
  refine X_iadd dL_law_178 ?_
  refine X_vI (μ' := mX8_addMachine) [.int s1, .int s2, .int v18, .int (10 + (((i5 : Int32) >>> ((12 : Int32) &&& 31)) - ((i5 : Int32) >>> ((12 : Int32) &&& 31)) / 91 * 91))] [] kL_RL_118 kM_X8_addMachine rv_0 rfl rfl rfl dL_law_179 h (fun _ hv => x_X8_addMachine hv) (fun v19 M20 h => ?_)
  refine X_iload (x := i4) dL_law_182 rfl ?_
  refine X_icmp_ne 191 dL_law_184 (by decide) h (fun h => ?_) (fun h => ?_)
  · exact x_L_law_191 hk42 h
  · exact x_L_law_187 hk42 h
def f_L_law_125 (ξ : xX) (k42 : xM → Int32 → Int32 → Int32 → Option (Int32 × xM)) (M : xM) (i2 : Int32) (i3 : Int32) (i4 : Int32) (i5 : Int32) (i6 : Int32) (s0 : Int32) : Option (Int32 × xM) :=
  xl s0 fun v21 =>
  if v21 = 0 then (
    f_L_law_191 ξ k42 M i2 v21 i4 i5 i6)
  else (
    if 1 < i4 then (
      f_L_law_187 ξ k42 M i2 v21 i4 i5 i6)
    else (
      if i6 = 2 then (
        f_L_law_158 ξ k42 M i2 v21 i4 i5 i6 i6 1)
      else (
        f_L_law_158 ξ k42 M i2 v21 i4 i5 i6 i6 (1 + (((i5 : Int32) >>> ((4 : Int32) &&& 31)) - ((i5 : Int32) >>> ((4 : Int32) &&& 31)) / 7 * 7)))))
set_option maxHeartbeats 1000000 in
theorem x_L_law_125 {ξ : xX} {M : xM} {k42 : xM → Int32 → Int32 → Int32 → Option (Int32 × xM)} {i2 : Int32} {i3 : Int32} {i4 : Int32} {i5 : Int32} {i6 : Int32} {s0 : Int32} (hk42 : ∀ (M : xM) (j2 j3 j4 : Int32) (z : (Int32 × xM)), k42 M j2 j3 j4 = some z → X ξ mL_law 42 [.float 3, .ref 0, .int j2, .int j3, .int j4] [] SH M 149 8418 (xr (some (.int z.1)) SH z.2)) {z : (Int32 × xM)} (h : f_L_law_125 ξ k42 M i2 i3 i4 i5 i6 s0 = some z) : X ξ mL_law 125 [.float 3, .ref 0, .int i2, .int i3, .int i4, .int i5, .int i6] [.int s0] SH M 149 8418 (xr (some (.int z.1)) SH z.2) := by
  rw [f_L_law_125] at h
  refine X_istoreL_n (fun v21 => [.float 3, .ref 0, .int i2, .int v21, .int i4, .int i5, .int i6]) dL_law_125 (Nat.le_of_ble_eq_true rfl) (Nat.le_of_ble_eq_true rfl) (xcat1_of rfl) h (fun _ => rfl) (fun v21 h => ?_)
  refine X_iload_n (x := v21) dL_law_126 rfl ?_
  refine X_if_eq 191 dL_law_127 (by decide) h (fun h => ?_) (fun h => ?_)
  · exact x_L_law_191 hk42 h
  · refine X_iload (x := i4) dL_law_130 rfl ?_
    refine X_iconst 1 dL_law_132 rfl ?_
    refine X_icmp_gt 187 dL_law_133 (by decide) h (fun h => ?_) (fun h => ?_)
    · exact x_L_law_187 hk42 h
    · refine X_aload_n (x := 0) dL_law_136 rfl ?_
      refine X_iload (x := i6) dL_law_137 rfl ?_
      refine X_iload (x := i6) dL_law_139 rfl ?_
      refine X_iconst 2 dL_law_141 rfl ?_
      refine X_icmp_ne 149 dL_law_142 (by decide) h (fun h => ?_) (fun h => ?_)
      · refine X_iconst 1 dL_law_149 rfl ?_
        refine X_iload (x := i5) dL_law_150 rfl ?_
        refine X_iconst 4 dL_law_152 rfl ?_
        refine X_ishr dL_law_153 ?_
        refine X_bipush 7 dL_law_154 rfl ?_
        refine X_irem (by decide) dL_law_156 ?_
        refine X_iadd dL_law_157 ?_
        exact x_L_law_158 hk42 h
      · refine X_iconst 1 dL_law_145 rfl ?_
        refine X_goto 158 dL_law_146 (by decide) ?_
        exact x_L_law_158 hk42 h
def f_L_law_254 (ξ : xX) (k202 : xM → Int32 → Int32 → Int32 → Option (Int32 × xM)) (M : xM) (i2 : Int32) (i3 : Int32) (i4 : Int32) (s0 : Int32) : Option (Int32 × xM) :=
  xl s0 fun v22 =>
  xl (i4 + 1) fun v23 =>
  k202 M i2 v22 v23
set_option maxHeartbeats 1000000 in
theorem x_L_law_254 {ξ : xX} {M : xM} {k202 : xM → Int32 → Int32 → Int32 → Option (Int32 × xM)} {i2 : Int32} {i3 : Int32} {i4 : Int32} {s0 : Int32} (hk202 : ∀ (M : xM) (j2 j3 j4 : Int32) (z : (Int32 × xM)), k202 M j2 j3 j4 = some z → X ξ mL_law 202 [.float 3, .ref 0, .int j2, .int j3, .int j4] [] SH M 149 8418 (xr (some (.int z.1)) SH z.2)) {z : (Int32 × xM)} (h : f_L_law_254 ξ k202 M i2 i3 i4 s0 = some z) : X ξ mL_law 254 [.float 3, .ref 0, .int i2, .int i3, .int i4] [.int s0] SH M 149 8418 (xr (some (.int z.1)) SH z.2) := by
  rw [f_L_law_254] at h
  refine X_istoreL_n (fun v22 => [.float 3, .ref 0, .int i2, .int v22, .int i4]) dL_law_254 (Nat.le_of_ble_eq_true rfl) (Nat.le_of_ble_eq_true rfl) (xcat1_of rfl) h (fun _ => rfl) (fun v22 h => ?_)
  refine X_iincL (x := i4) 1 (fun v23 => [.float 3, .ref 0, .int i2, .int v22, .int v23]) dL_law_255 rfl rfl (Nat.le_of_ble_eq_true rfl) (xcat1_of rfl) h (fun _ => rfl) (fun v23 h => ?_)
  refine X_goto 202 dL_law_258 (by decide) ?_
  exact hk202 _ _ _ _ _ h
def f_L_law_253 (ξ : xX) (k202 : xM → Int32 → Int32 → Int32 → Option (Int32 × xM)) (M : xM) (i2 : Int32) (i3 : Int32) (i4 : Int32) : Option (Int32 × xM) :=
  f_L_law_254 ξ k202 M i2 i3 i4 0
set_option maxHeartbeats 1000000 in
theorem x_L_law_253 {ξ : xX} {M : xM} {k202 : xM → Int32 → Int32 → Int32 → Option (Int32 × xM)} {i2 : Int32} {i3 : Int32} {i4 : Int32} (hk202 : ∀ (M : xM) (j2 j3 j4 : Int32) (z : (Int32 × xM)), k202 M j2 j3 j4 = some z → X ξ mL_law 202 [.float 3, .ref 0, .int j2, .int j3, .int j4] [] SH M 149 8418 (xr (some (.int z.1)) SH z.2)) {z : (Int32 × xM)} (h : f_L_law_253 ξ k202 M i2 i3 i4 = some z) : X ξ mL_law 253 [.float 3, .ref 0, .int i2, .int i3, .int i4] [] SH M 149 8418 (xr (some (.int z.1)) SH z.2) := by
  rw [f_L_law_253] at h
  refine X_iconst 0 dL_law_253 rfl ?_
  exact x_L_law_254 hk202 h
def f_L_law_356 (ξ : xX) (M : xM) (i2 : Int32) (i3 : Int32) (i4 : Int32) (i5 : Int32) (i6 : Int32) (s0 : Int32) : Option (Int32 × xM) :=
  xl s0 fun v24 =>
  if v24 = 0 then (
    some (0, M))
  else (
    xb2 (f_X8_undo M) fun v25 M26 =>
    if v25 < 0 then (
      some (0, M26))
    else (
      xb (f_X8_total M26 0) fun v27 =>
      if v27 = (i4 + 40) then (
        xb2 (f_X8_undo M26) fun v28 M29 =>
        if v28 < 0 then (
          some (0, M29))
        else (
          xb (f_X8_total M29 0) fun v30 =>
          if v30 = i4 then (
            xb (f_X8_total M29 7) fun v31 =>
            if v31 = i6 then (
              some (1, M29))
            else (
              some (0, M29)))
          else (
            some (0, M29))))
      else (
        some (0, M26))))
set_option maxHeartbeats 1000000 in
theorem x_L_law_356 {ξ : xX} {M : xM} {i2 : Int32} {i3 : Int32} {i4 : Int32} {i5 : Int32} {i6 : Int32} {s0 : Int32} {z : (Int32 × xM)} (h : f_L_law_356 ξ M i2 i3 i4 i5 i6 s0 = some z) : X ξ mL_law 356 [.float 3, .ref 0, .int i2, .int i3, .int i4, .int i5, .int i6] [.int s0] SH M 149 8418 (xr (some (.int z.1)) SH z.2) := by
  rw [f_L_law_356] at h
  refine X_istoreL_n (fun v24 => [.float 3, .ref 0, .int i2, .int v24, .int i4, .int i5, .int i6]) dL_law_356 (Nat.le_of_ble_eq_true rfl) (Nat.le_of_ble_eq_true rfl) (xcat1_of rfl) h (fun _ => rfl) (fun v24 h => ?_)
  refine X_iload_n (x := v24) dL_law_357 rfl ?_
  refine X_if_eq 413 dL_law_358 (by decide) h (fun h => ?_) (fun h => ?_)
  · refine X_iconst 0 dL_law_413 rfl ?_
    exact X_retL (by decide) dL_law_414 rfl (Nat.le_of_ble_eq_true rfl) (Nat.le_of_ble_eq_true rfl) h
  · refine X_aload_n (x := 0) dL_law_361 rfl ?_
    refine X_vI (μ' := mX8_undo) [] [] kL_RL_105 kM_X8_undo rv_0 rfl rfl rfl dL_law_362 h (fun _ hv => x_X8_undo hv) (fun v25 M26 h => ?_)
    refine X_if_lt 413 dL_law_365 (by decide) h (fun h => ?_) (fun h => ?_)
    · refine X_iconst 0 dL_law_413 rfl ?_
      exact X_retL (by decide) dL_law_414 rfl (Nat.le_of_ble_eq_true rfl) (Nat.le_of_ble_eq_true rfl) h
    · refine X_aload_n (x := 0) dL_law_368 rfl ?_
      refine X_iconst 0 dL_law_369 rfl ?_
      refine X_vP (μ' := mX8_total) [.int 0] [] kL_RL_9 kM_X8_total rv_0 rfl rfl rfl dL_law_370 h (fun _ hv => x_X8_total hv) (fun v27 h => ?_)
      refine X_iload (x := i4) dL_law_373 rfl ?_
      refine X_bipush 40 dL_law_375 rfl ?_
      refine X_iadd dL_law_377 ?_
      refine X_icmp_ne 413 dL_law_378 (by decide) h (fun h => ?_) (fun h => ?_)
      · refine X_iconst 0 dL_law_413 rfl ?_
        exact X_retL (by decide) dL_law_414 rfl (Nat.le_of_ble_eq_true rfl) (Nat.le_of_ble_eq_true rfl) h
      · refine X_aload_n (x := 0) dL_law_381 rfl ?_
        refine X_vI (μ' := mX8_undo) [] [] kL_RL_105 kM_X8_undo rv_0 rfl rfl rfl dL_law_382 h (fun _ hv => x_X8_undo hv) (fun v28 M29 h => ?_)
        refine X_if_lt 413 dL_law_385 (by decide) h (fun h => ?_) (fun h => ?_)
        · refine X_iconst 0 dL_law_413 rfl ?_
          exact X_retL (by decide) dL_law_414 rfl (Nat.le_of_ble_eq_true rfl) (Nat.le_of_ble_eq_true rfl) h
        · refine X_aload_n (x := 0) dL_law_388 rfl ?_
          refine X_iconst 0 dL_law_389 rfl ?_
          refine X_vP (μ' := mX8_total) [.int 0] [] kL_RL_9 kM_X8_total rv_0 rfl rfl rfl dL_law_390 h (fun _ hv => x_X8_total hv) (fun v30 h => ?_)
          refine X_iload (x := i4) dL_law_393 rfl ?_
          refine X_icmp_ne 413 dL_law_395 (by decide) h (fun h => ?_) (fun h => ?_)
          · refine X_iconst 0 dL_law_413 rfl ?_
            exact X_retL (by decide) dL_law_414 rfl (Nat.le_of_ble_eq_true rfl) (Nat.le_of_ble_eq_true rfl) h
          · refine X_aload_n (x := 0) dL_law_398 rfl ?_
            refine X_bipush 7 dL_law_399 rfl ?_
            refine X_vP (μ' := mX8_total) [.int 7] [] kL_RL_9 kM_X8_total rv_0 rfl rfl rfl dL_law_401 h (fun _ hv => x_X8_total hv) (fun v31 h => ?_)
            refine X_iload (x := i6) dL_law_404 rfl ?_
            refine X_icmp_ne 413 dL_law_406 (by decide) h (fun h => ?_) (fun h => ?_)
            · refine X_iconst 0 dL_law_413 rfl ?_
              exact X_retL (by decide) dL_law_414 rfl (Nat.le_of_ble_eq_true rfl) (Nat.le_of_ble_eq_true rfl) h
            · refine X_iconst 1 dL_law_409 rfl ?_
              refine X_goto 414 dL_law_410 (by decide) ?_
              exact X_retL (by decide) dL_law_414 rfl (Nat.le_of_ble_eq_true rfl) (Nat.le_of_ble_eq_true rfl) h
def f_L_law_355 (ξ : xX) (M : xM) (i2 : Int32) (i3 : Int32) (i4 : Int32) (i5 : Int32) (i6 : Int32) : Option (Int32 × xM) :=
  f_L_law_356 ξ M i2 i3 i4 i5 i6 0
set_option maxHeartbeats 1000000 in
theorem x_L_law_355 {ξ : xX} {M : xM} {i2 : Int32} {i3 : Int32} {i4 : Int32} {i5 : Int32} {i6 : Int32} {z : (Int32 × xM)} (h : f_L_law_355 ξ M i2 i3 i4 i5 i6 = some z) : X ξ mL_law 355 [.float 3, .ref 0, .int i2, .int i3, .int i4, .int i5, .int i6] [] SH M 149 8418 (xr (some (.int z.1)) SH z.2) := by
  rw [f_L_law_355] at h
  refine X_iconst 0 dL_law_355 rfl ?_
  exact x_L_law_356 h
def f_L_law_261 (ξ : xX) (M : xM) (i2 : Int32) (i3 : Int32) (i4 : Int32) : Option (Int32 × xM) :=
  xb (f_X8_total M 0) fun v32 =>
  xl v32 fun v33 =>
  xb (f_X8_total M 4) fun v34 =>
  xl v34 fun v35 =>
  xb (f_X8_total M 7) fun v36 =>
  xl v36 fun v37 =>
  if i3 = 0 then (
    f_L_law_355 ξ M i2 i3 v33 v35 v37)
  else (
    xb2 (f_X8_save M 1) fun v38 M39 =>
    if v38 = v33 then (
      xb2 (f_X8_passDays M39 40) fun v40 M41 =>
      if v40 < 0 then (
        f_L_law_355 ξ M41 i2 i3 v33 v35 v37)
      else (
        xb2 (f_X8_restore M41 1) fun v42 M43 =>
        if v42 = v33 then (
          xb (f_X8_total M43 4) fun v44 =>
          if v44 = v35 then (
            xb (f_X8_total M43 7) fun v45 =>
            if v45 = v37 then (
              xb (f_L_requests M43) fun v46 =>
              if v46 = 0 then (
                f_L_law_355 ξ M43 i2 i3 v33 v35 v37)
              else (
                xb (f_L_passes M43) fun v47 =>
                if v47 = 0 then (
                  f_L_law_355 ξ M43 i2 i3 v33 v35 v37)
                else (
                  f_L_law_356 ξ M43 i2 i3 v33 v35 v37 1)))
            else (
              f_L_law_355 ξ M43 i2 i3 v33 v35 v37))
          else (
            f_L_law_355 ξ M43 i2 i3 v33 v35 v37))
        else (
          f_L_law_355 ξ M43 i2 i3 v33 v35 v37)))
    else (
      f_L_law_355 ξ M39 i2 i3 v33 v35 v37))
set_option maxHeartbeats 1000000 in
theorem x_L_law_261 {ξ : xX} {M : xM} {i2 : Int32} {i3 : Int32} {i4 : Int32} {z : (Int32 × xM)} (h : f_L_law_261 ξ M i2 i3 i4 = some z) : X ξ mL_law 261 [.float 3, .ref 0, .int i2, .int i3, .int i4] [] SH M 149 8418 (xr (some (.int z.1)) SH z.2) := by
  rw [f_L_law_261] at h
  refine X_aload_n (x := 0) dL_law_261 rfl ?_
  refine X_iconst 0 dL_law_262 rfl ?_
  refine X_vP (μ' := mX8_total) [.int 0] [] kL_RL_9 kM_X8_total rv_0 rfl rfl rfl dL_law_263 h (fun _ hv => x_X8_total hv) (fun v32 h => ?_)
  refine X_istoreL (fun v33 => [.float 3, .ref 0, .int i2, .int i3, .int v33]) dL_law_266 (Nat.le_of_ble_eq_true rfl) (Nat.le_of_ble_eq_true rfl) (xcat1_of rfl) h (fun _ => rfl) (fun v33 h => ?_)
  refine X_aload_n (x := 0) dL_law_268 rfl ?_
  refine X_iconst 4 dL_law_269 rfl ?_
  refine X_vP (μ' := mX8_total) [.int 4] [] kL_RL_9 kM_X8_total rv_0 rfl rfl rfl dL_law_270 h (fun _ hv => x_X8_total hv) (fun v34 h => ?_)
  refine X_istoreL (fun v35 => [.float 3, .ref 0, .int i2, .int i3, .int v33, .int v35]) dL_law_273 (Nat.le_of_ble_eq_true rfl) (Nat.le_of_ble_eq_true rfl) (xcat1_of rfl) h (fun _ => rfl) (fun v35 h => ?_)
  refine X_aload_n (x := 0) dL_law_275 rfl ?_
  refine X_bipush 7 dL_law_276 rfl ?_
  refine X_vP (μ' := mX8_total) [.int 7] [] kL_RL_9 kM_X8_total rv_0 rfl rfl rfl dL_law_278 h (fun _ hv => x_X8_total hv) (fun v36 h => ?_)
  refine X_istoreL (fun v37 => [.float 3, .ref 0, .int i2, .int i3, .int v33, .int v35, .int v37]) dL_law_281 (Nat.le_of_ble_eq_true rfl) (Nat.le_of_ble_eq_true rfl) (xcat1_of rfl) h (fun _ => rfl) (fun v37 h => ?_)
  refine X_iload_n (x := i3) dL_law_283 rfl ?_
  refine X_if_eq 355 dL_law_284 (by decide) h (fun h => ?_) (fun h => ?_)
  · exact x_L_law_355 h
  · refine X_aload_n (x := 0) dL_law_287 rfl ?_
    refine X_iconst 1 dL_law_288 rfl ?_
    refine X_vI (μ' := mX8_save) [.int 1] [] kL_RL_134 kM_X8_save rv_0 rfl rfl rfl dL_law_289 h (fun _ hv => x_X8_save hv) (fun v38 M39 h => ?_)
    refine X_iload (x := v33) dL_law_292 rfl ?_
    refine X_icmp_ne 355 dL_law_294 (by decide) h (fun h => ?_) (fun h => ?_)
    · exact x_L_law_355 h
    · refine X_aload_n (x := 0) dL_law_297 rfl ?_
      refine X_bipush 40 dL_law_298 rfl ?_
      refine X_vI (μ' := mX8_passDays) [.int 40] [] kL_RL_94 kM_X8_passDays rv_0 rfl rfl rfl dL_law_300 h (fun _ hv => x_X8_passDays hv) (fun v40 M41 h => ?_)
      refine X_if_lt 355 dL_law_303 (by decide) h (fun h => ?_) (fun h => ?_)
      · exact x_L_law_355 h
      · refine X_aload_n (x := 0) dL_law_306 rfl ?_
        refine X_iconst 1 dL_law_307 rfl ?_
        refine X_vI (μ' := mX8_restore) [.int 1] [] kL_RL_109 kM_X8_restore rv_0 rfl rfl rfl dL_law_308 h (fun _ hv => x_X8_restore hv) (fun v42 M43 h => ?_)
        refine X_iload (x := v33) dL_law_311 rfl ?_
        refine X_icmp_ne 355 dL_law_313 (by decide) h (fun h => ?_) (fun h => ?_)
        · exact x_L_law_355 h
        · refine X_aload_n (x := 0) dL_law_316 rfl ?_
          refine X_iconst 4 dL_law_317 rfl ?_
          refine X_vP (μ' := mX8_total) [.int 4] [] kL_RL_9 kM_X8_total rv_0 rfl rfl rfl dL_law_318 h (fun _ hv => x_X8_total hv) (fun v44 h => ?_)
          refine X_iload (x := v35) dL_law_321 rfl ?_
          refine X_icmp_ne 355 dL_law_323 (by decide) h (fun h => ?_) (fun h => ?_)
          · exact x_L_law_355 h
          · refine X_aload_n (x := 0) dL_law_326 rfl ?_
            refine X_bipush 7 dL_law_327 rfl ?_
            refine X_vP (μ' := mX8_total) [.int 7] [] kL_RL_9 kM_X8_total rv_0 rfl rfl rfl dL_law_329 h (fun _ hv => x_X8_total hv) (fun v45 h => ?_)
            refine X_iload (x := v37) dL_law_332 rfl ?_
            refine X_icmp_ne 355 dL_law_334 (by decide) h (fun h => ?_) (fun h => ?_)
            · exact x_L_law_355 h
            · refine X_aload_n (x := 0) dL_law_337 rfl ?_
              refine X_sP (μ' := mL_requests) [.ref 0] [] kL_RL_124 kM_L_requests rfl rfl rfl dL_law_338 h (fun _ hv => x_L_requests hv) (fun v46 h => ?_)
              refine X_if_eq 355 dL_law_341 (by decide) h (fun h => ?_) (fun h => ?_)
              · exact x_L_law_355 h
              · refine X_aload_n (x := 0) dL_law_344 rfl ?_
                refine X_sP (μ' := mL_passes) [.ref 0] [] kL_RL_128 kM_L_passes rfl rfl rfl dL_law_345 h (fun _ hv => x_L_passes hv) (fun v47 h => ?_)
                refine X_if_eq 355 dL_law_348 (by decide) h (fun h => ?_) (fun h => ?_)
                · exact x_L_law_355 h
                · refine X_iconst 1 dL_law_351 rfl ?_
                  refine X_goto 356 dL_law_352 (by decide) ?_
                  exact x_L_law_356 h
def f_L_law_202 (ξ : xX) : Nat → xM → Int32 → Int32 → Int32 → Option (Int32 × xM)
  | 0, _, _, _, _ => none
  | fu + 1, M, i2, i3, i4 =>
    if 36 ≤ i4 then (
      f_L_law_261 ξ M i2 i3 i4)
    else (
      if i3 = 0 then (
        f_L_law_261 ξ M i2 i3 i4)
      else (
        xb (f_L_cell ξ (5 + i4)) fun v48 =>
        xb2 (f_L_acts M v48) fun v49 M50 =>
        if v49 = 0 then (
          f_L_law_253 ξ (f_L_law_202 ξ fu) M50 i2 i3 i4)
        else (
          xb (f_L_requests M50) fun v51 =>
          if v51 = 0 then (
            f_L_law_253 ξ (f_L_law_202 ξ fu) M50 i2 i3 i4)
          else (
            xb (f_L_passes M50) fun v52 =>
            if v52 = 0 then (
              f_L_law_253 ξ (f_L_law_202 ξ fu) M50 i2 i3 i4)
            else (
              xb (f_L_best M50) fun v53 =>
              if v53 = 0 then (
                f_L_law_253 ξ (f_L_law_202 ξ fu) M50 i2 i3 i4)
              else (
                f_L_law_254 ξ (f_L_law_202 ξ fu) M50 i2 i3 i4 1))))))
set_option maxHeartbeats 1000000 in
theorem x_L_law_202 {ξ : xX} : ∀ (fu : Nat) (M : xM) (i2 i3 i4 : Int32) (z : (Int32 × xM)), f_L_law_202 ξ fu M i2 i3 i4 = some z → X ξ mL_law 202 [.float 3, .ref 0, .int i2, .int i3, .int i4] [] SH M 149 8418 (xr (some (.int z.1)) SH z.2) := by
  intro fu
  induction fu with
  | zero => intro M i2 i3 i4 z h; rw [f_L_law_202] at h; cases h
  | succ fu ih =>
    intro M i2 i3 i4 z h
    rw [f_L_law_202] at h
    refine X_iload (x := i4) dL_law_202 rfl ?_
    refine X_bipush 36 dL_law_204 rfl ?_
    refine X_icmp_ge 261 dL_law_206 (by decide) h (fun h => ?_) (fun h => ?_)
    · exact x_L_law_261 h
    · refine X_iload_n (x := i3) dL_law_209 rfl ?_
      refine X_if_eq 261 dL_law_210 (by decide) h (fun h => ?_) (fun h => ?_)
      · exact x_L_law_261 h
      · refine X_aload_n (x := 0) dL_law_213 rfl ?_
        refine X_aload_nF dL_law_214 rfl ?_
        refine X_iconst 5 dL_law_215 rfl ?_
        refine X_iload (x := i4) dL_law_216 rfl ?_
        refine X_iadd dL_law_218 ?_
        refine X_sP (μ' := mL_cell) [.float 3, .int (5 + i4)] [.ref 0] kL_RL_101 kM_L_cell rfl rfl rfl dL_law_219 h (fun _ hv => x_L_cell hv) (fun v48 h => ?_)
        refine X_sI (μ' := mL_acts) [.ref 0, .int v48] [] kL_RL_121 kM_L_acts rfl rfl rfl dL_law_222 h (fun _ hv => x_L_acts hv) (fun v49 M50 h => ?_)
        refine X_if_eq 253 dL_law_225 (by decide) h (fun h => ?_) (fun h => ?_)
        · exact x_L_law_253 ih h
        · refine X_aload_n (x := 0) dL_law_228 rfl ?_
          refine X_sP (μ' := mL_requests) [.ref 0] [] kL_RL_124 kM_L_requests rfl rfl rfl dL_law_229 h (fun _ hv => x_L_requests hv) (fun v51 h => ?_)
          refine X_if_eq 253 dL_law_232 (by decide) h (fun h => ?_) (fun h => ?_)
          · exact x_L_law_253 ih h
          · refine X_aload_n (x := 0) dL_law_235 rfl ?_
            refine X_sP (μ' := mL_passes) [.ref 0] [] kL_RL_128 kM_L_passes rfl rfl rfl dL_law_236 h (fun _ hv => x_L_passes hv) (fun v52 h => ?_)
            refine X_if_eq 253 dL_law_239 (by decide) h (fun h => ?_) (fun h => ?_)
            · exact x_L_law_253 ih h
            · refine X_aload_n (x := 0) dL_law_242 rfl ?_
              refine X_sP (μ' := mL_best) [.ref 0] [] kL_RL_131 kM_L_best rfl rfl rfl dL_law_243 h (fun _ hv => x_L_best hv) (fun v53 h => ?_)
              refine X_if_eq 253 dL_law_246 (by decide) h (fun h => ?_) (fun h => ?_)
              · exact x_L_law_253 ih h
              · refine X_iconst 1 dL_law_249 rfl ?_
                refine X_goto 254 dL_law_250 (by decide) ?_
                exact x_L_law_254 ih h
def f_L_law_199 (ξ : xX) (M : xM) (i2 : Int32) (i3 : Int32) (i4 : Int32) : Option (Int32 × xM) :=
  xl (0 : Int32) fun v54 =>
  f_L_law_202 ξ xFU M i2 i3 v54
set_option maxHeartbeats 1000000 in
theorem x_L_law_199 {ξ : xX} {M : xM} {i2 : Int32} {i3 : Int32} {i4 : Int32} {z : (Int32 × xM)} (h : f_L_law_199 ξ M i2 i3 i4 = some z) : X ξ mL_law 199 [.float 3, .ref 0, .int i2, .int i3, .int i4] [] SH M 149 8418 (xr (some (.int z.1)) SH z.2) := by
  rw [f_L_law_199] at h
  refine X_iconst 0 dL_law_199 rfl ?_
  refine X_istoreL (fun v54 => [.float 3, .ref 0, .int i2, .int i3, .int v54]) dL_law_200 (Nat.le_of_ble_eq_true rfl) (Nat.le_of_ble_eq_true rfl) (xcat1_of rfl) h (fun _ => rfl) (fun v54 h => ?_)
  exact x_L_law_202 _ _ _ _ _ _ h
def f_L_law_42 (ξ : xX) : Nat → xM → Int32 → Int32 → Int32 → Option (Int32 × xM)
  | 0, _, _, _, _ => none
  | fu + 1, M, i2, i3, i4 =>
    if 4 ≤ i4 then (
      f_L_law_199 ξ M i2 i3 i4)
    else (
      if i3 = 0 then (
        f_L_law_199 ξ M i2 i3 i4)
      else (
        xb (f_L_cell ξ (1 + i4)) fun v55 =>
        xl v55 fun v56 =>
        xl (((i2 : Int32) >>> ((i4 : Int32) &&& 31)) - ((i2 : Int32) >>> ((i4 : Int32) &&& 31)) / 3 * 3) fun v57 =>
        xb (f_L_speed v57 (v56 - v56 / 3 * 3)) fun v58 =>
        xb (f_L_layout v57 ((v56 : Int32) >>> ((2 : Int32) &&& 31))) fun v59 =>
        xb2 (f_X8_addCarrier M v57 v58 v59 (100 + (((v56 : Int32) >>> ((5 : Int32) &&& 31)) - ((v56 : Int32) >>> ((5 : Int32) &&& 31)) / 3500 * 3500)) (2 + (((v56 : Int32) >>> ((17 : Int32) &&& 31)) - ((v56 : Int32) >>> ((17 : Int32) &&& 31)) / 9 * 9))) fun v60 M61 =>
        if v60 = i4 then (
          f_L_law_125 ξ (f_L_law_42 ξ fu) M61 i2 i3 i4 v56 v57 1)
        else (
          f_L_law_125 ξ (f_L_law_42 ξ fu) M61 i2 i3 i4 v56 v57 0)))
set_option maxHeartbeats 1000000 in
theorem x_L_law_42 {ξ : xX} : ∀ (fu : Nat) (M : xM) (i2 i3 i4 : Int32) (z : (Int32 × xM)), f_L_law_42 ξ fu M i2 i3 i4 = some z → X ξ mL_law 42 [.float 3, .ref 0, .int i2, .int i3, .int i4] [] SH M 149 8418 (xr (some (.int z.1)) SH z.2) := by
  intro fu
  induction fu with
  | zero => intro M i2 i3 i4 z h; rw [f_L_law_42] at h; cases h
  | succ fu ih =>
    intro M i2 i3 i4 z h
    rw [f_L_law_42] at h
    refine X_iload (x := i4) dL_law_42 rfl ?_
    refine X_iconst 4 dL_law_44 rfl ?_
    refine X_icmp_ge 199 dL_law_45 (by decide) h (fun h => ?_) (fun h => ?_)
    · exact x_L_law_199 h
    · refine X_iload_n (x := i3) dL_law_48 rfl ?_
      refine X_if_eq 199 dL_law_49 (by decide) h (fun h => ?_) (fun h => ?_)
      · exact x_L_law_199 h
      · refine X_aload_nF dL_law_52 rfl ?_
        refine X_iconst 1 dL_law_53 rfl ?_
        refine X_iload (x := i4) dL_law_54 rfl ?_
        refine X_iadd dL_law_56 ?_
        refine X_sP (μ' := mL_cell) [.float 3, .int (1 + i4)] [] kL_RL_101 kM_L_cell rfl rfl rfl dL_law_57 h (fun _ hv => x_L_cell hv) (fun v55 h => ?_)
        refine X_istoreL (fun v56 => [.float 3, .ref 0, .int i2, .int i3, .int i4, .int v56]) dL_law_60 (Nat.le_of_ble_eq_true rfl) (Nat.le_of_ble_eq_true rfl) (xcat1_of rfl) h (fun _ => rfl) (fun v56 h => ?_)
        refine X_iload_n (x := i2) dL_law_62 rfl ?_
        refine X_iload (x := i4) dL_law_63 rfl ?_
        refine X_ishr dL_law_65 ?_
        refine X_iconst 3 dL_law_66 rfl ?_
        refine X_irem (by decide) dL_law_67 ?_
        refine X_istoreL (fun v57 => [.float 3, .ref 0, .int i2, .int i3, .int i4, .int v56, .int v57]) dL_law_68 (Nat.le_of_ble_eq_true rfl) (Nat.le_of_ble_eq_true rfl) (xcat1_of rfl) h (fun _ => rfl) (fun v57 h => ?_)
        refine X_aload_n (x := 0) dL_law_70 rfl ?_
        refine X_iload (x := v57) dL_law_71 rfl ?_
        refine X_iload (x := v57) dL_law_73 rfl ?_
        refine X_iload (x := v56) dL_law_75 rfl ?_
        refine X_iconst 3 dL_law_77 rfl ?_
        refine X_irem (by decide) dL_law_78 ?_
        refine X_sP (μ' := mL_speed) [.int v57, .int (v56 - v56 / 3 * 3)] [.int v57, .ref 0] kL_RL_52 kM_L_speed rfl rfl rfl dL_law_79 h (fun _ hv => x_L_speed hv) (fun v58 h => ?_)
        refine X_iload (x := v57) dL_law_82 rfl ?_
        refine X_iload (x := v56) dL_law_84 rfl ?_
        refine X_iconst 2 dL_law_86 rfl ?_
        refine X_ishr dL_law_87 ?_
        refine X_sP (μ' := mL_layout) [.int v57, .int ((v56 : Int32) >>> ((2 : Int32) &&& 31))] [.int v58, .int v57, .ref 0] kL_RL_112 kM_L_layout rfl rfl rfl dL_law_88 h (fun _ hv => x_L_layout hv) (fun v59 h => ?_)
        refine X_bipush 100 dL_law_91 rfl ?_
        refine X_iload (x := v56) dL_law_93 rfl ?_
        refine X_iconst 5 dL_law_95 rfl ?_
        refine X_ishr dL_law_96 ?_
        refine X_sipush 3500 dL_law_97 rfl ?_
        refine X_irem (by decide) dL_law_100 ?_
        refine X_iadd dL_law_101 ?_
        refine X_iconst 2 dL_law_102 rfl ?_
        refine X_iload (x := v56) dL_law_103 rfl ?_
        refine X_bipush 17 dL_law_105 rfl ?_
        refine X_ishr dL_law_107 ?_
        refine X_bipush 9 dL_law_108 rfl ?_
        refine X_irem (by decide) dL_law_110 ?_
        refine X_iadd dL_law_111 ?_
        refine X_vI (μ' := mX8_addCarrier) [.int v57, .int v58, .int v59, .int (100 + (((v56 : Int32) >>> ((5 : Int32) &&& 31)) - ((v56 : Int32) >>> ((5 : Int32) &&& 31)) / 3500 * 3500)), .int (2 + (((v56 : Int32) >>> ((17 : Int32) &&& 31)) - ((v56 : Int32) >>> ((17 : Int32) &&& 31)) / 9 * 9))] [] kL_RL_115 kM_X8_addCarrier rv_0 rfl rfl rfl dL_law_112 h (fun _ hv => x_X8_addCarrier hv) (fun v60 M61 h => ?_)
        refine X_iload (x := i4) dL_law_115 rfl ?_
        refine X_icmp_ne 124 dL_law_117 (by decide) h (fun h => ?_) (fun h => ?_)
        · refine X_iconst 0 dL_law_124 rfl ?_
          exact x_L_law_125 ih h
        · refine X_iconst 1 dL_law_120 rfl ?_
          refine X_goto 125 dL_law_121 (by decide) ?_
          exact x_L_law_125 ih h
def f_L_law_38 (ξ : xX) (M : xM) (i2 : Int32) (s0 : Int32) : Option (Int32 × xM) :=
  xl s0 fun v62 =>
  xl (0 : Int32) fun v63 =>
  f_L_law_42 ξ xFU M i2 v62 v63
set_option maxHeartbeats 1000000 in
theorem x_L_law_38 {ξ : xX} {M : xM} {i2 : Int32} {s0 : Int32} {z : (Int32 × xM)} (h : f_L_law_38 ξ M i2 s0 = some z) : X ξ mL_law 38 [.float 3, .ref 0, .int i2] [.int s0] SH M 149 8418 (xr (some (.int z.1)) SH z.2) := by
  rw [f_L_law_38] at h
  refine X_istoreL_n (fun v62 => [.float 3, .ref 0, .int i2, .int v62]) dL_law_38 (Nat.le_of_ble_eq_true rfl) (Nat.le_of_ble_eq_true rfl) (xcat1_of rfl) h (fun _ => rfl) (fun v62 h => ?_)
  refine X_iconst 0 dL_law_39 rfl ?_
  refine X_istoreL (fun v63 => [.float 3, .ref 0, .int i2, .int v62, .int v63]) dL_law_40 (Nat.le_of_ble_eq_true rfl) (Nat.le_of_ble_eq_true rfl) (xcat1_of rfl) h (fun _ => rfl) (fun v63 h => ?_)
  exact x_L_law_42 _ _ _ _ _ _ h
def f_L_law_37 (ξ : xX) (M : xM) (i2 : Int32) : Option (Int32 × xM) :=
  f_L_law_38 ξ M i2 0
set_option maxHeartbeats 1000000 in
theorem x_L_law_37 {ξ : xX} {M : xM} {i2 : Int32} {z : (Int32 × xM)} (h : f_L_law_37 ξ M i2 = some z) : X ξ mL_law 37 [.float 3, .ref 0, .int i2] [] SH M 149 8418 (xr (some (.int z.1)) SH z.2) := by
  rw [f_L_law_37] at h
  refine X_iconst 0 dL_law_37 rfl ?_
  exact x_L_law_38 h
def f_L_law (ξ : xX) (M : xM) : Option (Int32 × xM) :=
  xb (f_L_cell ξ 0) fun v64 =>
  xl v64 fun v65 =>
  xb2 (f_X8_undo M) fun v66 M67 =>
  if v66 = (-3) then (
    xb2 (f_X8_restore M67 0) fun v68 M69 =>
    if v68 = (-3) then (
      f_L_law_38 ξ M69 v65 1)
    else (
      f_L_law_37 ξ M69 v65))
  else (
    f_L_law_37 ξ M67 v65)
set_option maxHeartbeats 1000000 in
theorem x_L_law {ξ : xX} {M : xM} {z : (Int32 × xM)} (h : f_L_law ξ M = some z) : X ξ mL_law 8 [.float 3, .ref 0] [] SH M 149 8418 (xr (some (.int z.1)) SH z.2) := by
  rw [f_L_law] at h
  refine X_aload_nF dL_law_8 rfl ?_
  refine X_iconst 0 dL_law_9 rfl ?_
  refine X_sP (μ' := mL_cell) [.float 3, .int 0] [] kL_RL_101 kM_L_cell rfl rfl rfl dL_law_10 h (fun _ hv => x_L_cell hv) (fun v64 h => ?_)
  refine X_istoreL_n (fun v65 => [.float 3, .ref 0, .int v65]) dL_law_13 (Nat.le_of_ble_eq_true rfl) (Nat.le_of_ble_eq_true rfl) (xcat1_of rfl) h (fun _ => rfl) (fun v65 h => ?_)
  refine X_aload_n (x := 0) dL_law_14 rfl ?_
  refine X_vI (μ' := mX8_undo) [] [] kL_RL_105 kM_X8_undo rv_0 rfl rfl rfl dL_law_15 h (fun _ hv => x_X8_undo hv) (fun v66 M67 h => ?_)
  refine X_bipush (-3) dL_law_18 rfl ?_
  refine X_icmp_ne 37 dL_law_20 (by decide) h (fun h => ?_) (fun h => ?_)
  · exact x_L_law_37 h
  · refine X_aload_n (x := 0) dL_law_23 rfl ?_
    refine X_iconst 0 dL_law_24 rfl ?_
    refine X_vI (μ' := mX8_restore) [.int 0] [] kL_RL_109 kM_X8_restore rv_0 rfl rfl rfl dL_law_25 h (fun _ hv => x_X8_restore hv) (fun v68 M69 h => ?_)
    refine X_bipush (-3) dL_law_28 rfl ?_
    refine X_icmp_ne 37 dL_law_30 (by decide) h (fun h => ?_) (fun h => ?_)
    · exact x_L_law_37 h
    · refine X_iconst 1 dL_law_33 rfl ?_
      refine X_goto 38 dL_law_34 (by decide) ?_
      exact x_L_law_38 h
