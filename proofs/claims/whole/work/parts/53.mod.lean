def f_X9_faultPosition (M : xM) : Option (Int32 × xM) :=
  xb2 (f_X9_isGood M) fun v1 M2 =>
  if v1 = 0 then (
    some ((M2 149 10), M2))
  else (
    some ((-6), M2))
set_option maxHeartbeats 1000000 in
theorem x_X9_faultPosition {ξ : xX} {M : xM} {z : (Int32 × xM)} (h : f_X9_faultPosition M = some z) : X ξ mX9_faultPosition 0 [.ref 149] [] SH M 0 0 (xr (some (.int z.1)) SH z.2) := by
  rw [f_X9_faultPosition] at h
  refine X_aload_n (x := 149) dX9_faultPosition_0 rfl ?_
  refine X_vI (μ' := mX9_isGood) [] [] kL_RX9_174 kM_X9_isGood rv_149 rfl rfl rfl dX9_faultPosition_1 h (fun _ hv => x_X9_isGood hv) (fun v1 M2 h => ?_)
  refine X_if_eq 12 dX9_faultPosition_4 (by decide) h (fun h => ?_) (fun h => ?_)
  · refine X_aload_n (x := 149) dX9_faultPosition_12 rfl ?_
    refine X_get (v := .int (M2 149 10)) kF_RX9_158 sh_149 rfl rfl dX9_faultPosition_13 ?_
    exact X_retI dX9_faultPosition_16 rfl (Nat.le_refl _) (Nat.le_refl _) h
  · refine X_bipush (-6) dX9_faultPosition_7 rfl ?_
    refine X_goto 16 dX9_faultPosition_9 (by decide) ?_
    exact X_retI dX9_faultPosition_16 rfl (Nat.le_refl _) (Nat.le_refl _) h
def f_X9_doAct (M : xM) : Option (Int32 × xM) :=
  if (M 149 11) = 116 then (
    xgd (xin 0 4) <|
    xgd (xin 1 4) <|
    xgd (xin 2 4) <|
    xgd (xin 3 4) <|
    xb2 (f_X9_plays M (M 158 (0 : Int32).toNatClampNeg) (M 158 (1 : Int32).toNatClampNeg) (M 158 (2 : Int32).toNatClampNeg) (M 158 (3 : Int32).toNatClampNeg) 0) fun v1 M2 =>
    some (v1, M2))
  else (
    if (M 149 11) = 97 then (
      xgd (xin 0 4) <|
      xb2 (f_X9_answers M (M 158 (0 : Int32).toNatClampNeg) 0) fun v3 M4 =>
      some (v3, M4))
    else (
      xgd (xin 0 4) <|
      xb2 (f_X9_goesBy M (M 158 (0 : Int32).toNatClampNeg) 0) fun v5 M6 =>
      some (v5, M6)))
set_option maxHeartbeats 1000000 in
theorem x_X9_doAct {ξ : xX} {M : xM} {z : (Int32 × xM)} (h : f_X9_doAct M = some z) : X ξ mX9_doAct 0 [.ref 149] [] SH M 0 0 (xr (some (.int z.1)) SH z.2) := by
  rw [f_X9_doAct] at h
  refine X_aload_n (x := 149) dX9_doAct_0 rfl ?_
  refine X_get (v := .int (M 149 11)) kF_RX9_161 sh_149 rfl rfl dX9_doAct_1 ?_
  refine X_bipush 116 dX9_doAct_4 rfl ?_
  refine X_icmp_ne 41 dX9_doAct_6 (by decide) h (fun h => ?_) (fun h => ?_)
  · refine X_aload_n (x := 149) dX9_doAct_41 rfl ?_
    refine X_get (v := .int (M 149 11)) kF_RX9_161 sh_149 rfl rfl dX9_doAct_42 ?_
    refine X_bipush 97 dX9_doAct_45 rfl ?_
    refine X_icmp_ne 64 dX9_doAct_47 (by decide) h (fun h => ?_) (fun h => ?_)
    · refine X_aload_n (x := 149) dX9_doAct_64 rfl ?_
      refine X_aload_n (x := 149) dX9_doAct_65 rfl ?_
      refine X_get (v := .ref 158) kF_RX9_35 sh_149 rfl rfl dX9_doAct_66 ?_
      refine X_iconst 0 dX9_doAct_69 rfl ?_
      refine X_iald sh_158 dX9_doAct_70 h (fun h => ?_)
      refine X_iconst 0 dX9_doAct_71 rfl ?_
      refine X_vI (μ' := mX9_goesBy) [.int (M 158 (0 : Int32).toNatClampNeg), .int 0] [] kL_RX9_152 kM_X9_goesBy rv_149 rfl rfl rfl dX9_doAct_72 h (fun _ hv => x_X9_goesBy hv) (fun v5 M6 h => ?_)
      exact X_retI dX9_doAct_75 rfl (Nat.le_refl _) (Nat.le_refl _) h
    · refine X_aload_n (x := 149) dX9_doAct_50 rfl ?_
      refine X_aload_n (x := 149) dX9_doAct_51 rfl ?_
      refine X_get (v := .ref 158) kF_RX9_35 sh_149 rfl rfl dX9_doAct_52 ?_
      refine X_iconst 0 dX9_doAct_55 rfl ?_
      refine X_iald sh_158 dX9_doAct_56 h (fun h => ?_)
      refine X_iconst 0 dX9_doAct_57 rfl ?_
      refine X_vI (μ' := mX9_answers) [.int (M 158 (0 : Int32).toNatClampNeg), .int 0] [] kL_RX9_148 kM_X9_answers rv_149 rfl rfl rfl dX9_doAct_58 h (fun _ hv => x_X9_answers hv) (fun v3 M4 h => ?_)
      refine X_goto 75 dX9_doAct_61 (by decide) ?_
      exact X_retI dX9_doAct_75 rfl (Nat.le_refl _) (Nat.le_refl _) h
  · refine X_aload_n (x := 149) dX9_doAct_9 rfl ?_
    refine X_aload_n (x := 149) dX9_doAct_10 rfl ?_
    refine X_get (v := .ref 158) kF_RX9_35 sh_149 rfl rfl dX9_doAct_11 ?_
    refine X_iconst 0 dX9_doAct_14 rfl ?_
    refine X_iald sh_158 dX9_doAct_15 h (fun h => ?_)
    refine X_aload_n (x := 149) dX9_doAct_16 rfl ?_
    refine X_get (v := .ref 158) kF_RX9_35 sh_149 rfl rfl dX9_doAct_17 ?_
    refine X_iconst 1 dX9_doAct_20 rfl ?_
    refine X_iald sh_158 dX9_doAct_21 h (fun h => ?_)
    refine X_aload_n (x := 149) dX9_doAct_22 rfl ?_
    refine X_get (v := .ref 158) kF_RX9_35 sh_149 rfl rfl dX9_doAct_23 ?_
    refine X_iconst 2 dX9_doAct_26 rfl ?_
    refine X_iald sh_158 dX9_doAct_27 h (fun h => ?_)
    refine X_aload_n (x := 149) dX9_doAct_28 rfl ?_
    refine X_get (v := .ref 158) kF_RX9_35 sh_149 rfl rfl dX9_doAct_29 ?_
    refine X_iconst 3 dX9_doAct_32 rfl ?_
    refine X_iald sh_158 dX9_doAct_33 h (fun h => ?_)
    refine X_iconst 0 dX9_doAct_34 rfl ?_
    refine X_vI (μ' := mX9_plays) [.int (M 158 (0 : Int32).toNatClampNeg), .int (M 158 (1 : Int32).toNatClampNeg), .int (M 158 (2 : Int32).toNatClampNeg), .int (M 158 (3 : Int32).toNatClampNeg), .int 0] [] kL_RX9_112 kM_X9_plays rv_149 rfl rfl rfl dX9_doAct_35 h (fun _ hv => x_X9_plays hv) (fun v1 M2 h => ?_)
    refine X_goto 75 dX9_doAct_38 (by decide) ?_
    exact X_retI dX9_doAct_75 rfl (Nat.le_refl _) (Nat.le_refl _) h
def f_X9_run_66 (k23 : xM → Int32 → Int32 → Option (Int32 × xM)) (M : xM) (i1 : Int32) (i2 : Int32) (s0 : Int32) (s1 : Int32) : Option (Int32 × xM) :=
  xl (s0 + s1) fun v5 =>
  k23 M v5 i2
set_option maxHeartbeats 1000000 in
theorem x_X9_run_66 {ξ : xX} {M : xM} {k23 : xM → Int32 → Int32 → Option (Int32 × xM)} {i1 : Int32} {i2 : Int32} {s0 : Int32} {s1 : Int32} (hk23 : ∀ (M : xM) (j1 j2 : Int32) (z : (Int32 × xM)), k23 M j1 j2 = some z → X ξ mX9_run 23 [.ref 149, .int j1, .int j2] [] SH M 0 0 (xr (some (.int z.1)) SH z.2)) {z : (Int32 × xM)} (h : f_X9_run_66 k23 M i1 i2 s0 s1 = some z) : X ξ mX9_run 66 [.ref 149, .int i1, .int i2] [.int s1, .int s0] SH M 0 0 (xr (some (.int z.1)) SH z.2) := by
  rw [f_X9_run_66] at h
  refine X_iadd dX9_run_66 ?_
  refine X_istoreL_n (fun v5 => [.ref 149, .int v5, .int i2]) dX9_run_67 (Nat.le_of_ble_eq_true rfl) (Nat.le_of_ble_eq_true rfl) (xcat1_of rfl) h (fun _ => rfl) (fun v5 h => ?_)
  refine X_goto 23 dX9_run_68 (by decide) ?_
  exact hk23 _ _ _ _ h
def f_X9_run_55 (k23 : xM → Int32 → Int32 → Option (Int32 × xM)) (M : xM) (i1 : Int32) (i2 : Int32) (s0 : Int32) : Option (Int32 × xM) :=
  xl s0 fun v6 =>
  if v6 = 0 then (
    f_X9_run_66 k23 M i1 v6 i1 0)
  else (
    f_X9_run_66 k23 M i1 v6 i1 1)
set_option maxHeartbeats 1000000 in
theorem x_X9_run_55 {ξ : xX} {M : xM} {k23 : xM → Int32 → Int32 → Option (Int32 × xM)} {i1 : Int32} {i2 : Int32} {s0 : Int32} (hk23 : ∀ (M : xM) (j1 j2 : Int32) (z : (Int32 × xM)), k23 M j1 j2 = some z → X ξ mX9_run 23 [.ref 149, .int j1, .int j2] [] SH M 0 0 (xr (some (.int z.1)) SH z.2)) {z : (Int32 × xM)} (h : f_X9_run_55 k23 M i1 i2 s0 = some z) : X ξ mX9_run 55 [.ref 149, .int i1, .int i2] [.int s0] SH M 0 0 (xr (some (.int z.1)) SH z.2) := by
  rw [f_X9_run_55] at h
  refine X_istoreL_n (fun v6 => [.ref 149, .int i1, .int v6]) dX9_run_55 (Nat.le_of_ble_eq_true rfl) (Nat.le_of_ble_eq_true rfl) (xcat1_of rfl) h (fun _ => rfl) (fun v6 h => ?_)
  refine X_iload_n (x := i1) dX9_run_56 rfl ?_
  refine X_iload_n (x := v6) dX9_run_57 rfl ?_
  refine X_if_eq 65 dX9_run_58 (by decide) h (fun h => ?_) (fun h => ?_)
  · refine X_iconst 0 dX9_run_65 rfl ?_
    exact x_X9_run_66 hk23 h
  · refine X_iconst 1 dX9_run_61 rfl ?_
    refine X_goto 66 dX9_run_62 (by decide) ?_
    exact x_X9_run_66 hk23 h
def f_X9_run_23 : Nat → xM → Int32 → Int32 → Option (Int32 × xM)
  | 0, _, _, _ => none
  | fu + 1, M, i1, i2 =>
    if i2 = 0 then (
      some (i1, M))
    else (
      if (M 149 6) ≤ (M 149 10) then (
        some (i1, M))
      else (
        xb2 (f_X9_readAct M) fun v7 M8 =>
        xb2 (f_X9_doAct M8) fun v9 M10 =>
        if v9 < 0 then (
          f_X9_run_55 (f_X9_run_23 fu) M10 i1 i2 0)
        else (
          f_X9_run_55 (f_X9_run_23 fu) M10 i1 i2 1)))
set_option maxHeartbeats 1000000 in
theorem x_X9_run_23 {ξ : xX} : ∀ (fu : Nat) (M : xM) (i1 i2 : Int32) (z : (Int32 × xM)), f_X9_run_23 fu M i1 i2 = some z → X ξ mX9_run 23 [.ref 149, .int i1, .int i2] [] SH M 0 0 (xr (some (.int z.1)) SH z.2) := by
  intro fu
  induction fu with
  | zero => intro M i1 i2 z h; rw [f_X9_run_23] at h; cases h
  | succ fu ih =>
    intro M i1 i2 z h
    rw [f_X9_run_23] at h
    refine X_iload_n (x := i2) dX9_run_23 rfl ?_
    refine X_if_eq 71 dX9_run_24 (by decide) h (fun h => ?_) (fun h => ?_)
    · refine X_iload_n (x := i1) dX9_run_71 rfl ?_
      exact X_retI dX9_run_72 rfl (Nat.le_refl _) (Nat.le_refl _) h
    · refine X_aload_n (x := 149) dX9_run_27 rfl ?_
      refine X_get (v := .int (M 149 10)) kF_RX9_158 sh_149 rfl rfl dX9_run_28 ?_
      refine X_aload_n (x := 149) dX9_run_31 rfl ?_
      refine X_get (v := .int (M 149 6)) kF_RX9_155 sh_149 rfl rfl dX9_run_32 ?_
      refine X_icmp_ge 71 dX9_run_35 (by decide) h (fun h => ?_) (fun h => ?_)
      · refine X_iload_n (x := i1) dX9_run_71 rfl ?_
        exact X_retI dX9_run_72 rfl (Nat.le_refl _) (Nat.le_refl _) h
      · refine X_aload_n (x := 149) dX9_run_38 rfl ?_
        refine X_vI (μ' := mX9_readAct) [] [] kL_RX9_170 kM_X9_readAct rv_149 rfl rfl rfl dX9_run_39 h (fun _ hv => x_X9_readAct hv) (fun v7 M8 h => ?_)
        refine X_pop dX9_run_42 rfl ?_
        refine X_aload_n (x := 149) dX9_run_43 rfl ?_
        refine X_vI (μ' := mX9_doAct) [] [] kL_RX9_177 kM_X9_doAct rv_149 rfl rfl rfl dX9_run_44 h (fun _ hv => x_X9_doAct hv) (fun v9 M10 h => ?_)
        refine X_if_lt 54 dX9_run_47 (by decide) h (fun h => ?_) (fun h => ?_)
        · refine X_iconst 0 dX9_run_54 rfl ?_
          exact x_X9_run_55 ih h
        · refine X_iconst 1 dX9_run_50 rfl ?_
          refine X_goto 55 dX9_run_51 (by decide) ?_
          exact x_X9_run_55 ih h
def f_X9_run (M : xM) : Option (Int32 × xM) :=
  xb2 (f_X9_isGood M) fun v11 M12 =>
  if v11 = 0 then (
    some ((-3), M12))
  else (
    xb (f_X9_record M12) fun M13 =>
    xl (xw M13 149 10 0) fun M14 =>
    xl (0 : Int32) fun v15 =>
    xl (1 : Int32) fun v16 =>
    f_X9_run_23 xFU M14 v15 v16)
set_option maxHeartbeats 1000000 in
theorem x_X9_run {ξ : xX} {M : xM} {z : (Int32 × xM)} (h : f_X9_run M = some z) : X ξ mX9_run 0 [.ref 149] [] SH M 0 0 (xr (some (.int z.1)) SH z.2) := by
  rw [f_X9_run] at h
  refine X_aload_n (x := 149) dX9_run_0 rfl ?_
  refine X_vI (μ' := mX9_isGood) [] [] kL_RX9_174 kM_X9_isGood rv_149 rfl rfl rfl dX9_run_1 h (fun _ hv => x_X9_isGood hv) (fun v11 M12 h => ?_)
  refine X_if_ne 10 dX9_run_4 (by decide) h (fun h => ?_) (fun h => ?_)
  · refine X_aload_n (x := 149) dX9_run_10 rfl ?_
    refine X_vV (μ' := mX9_record) [] [] kL_RX9_54 kM_X9_record rv_149 rfl rfl rfl dX9_run_11 h (fun _ hv => x_X9_record hv) (fun M13 h => ?_)
    refine X_aload_n (x := 149) dX9_run_14 rfl ?_
    refine X_iconst 0 dX9_run_15 rfl ?_
    refine X_putI kF_RX9_158 sh_149 rfl rfl rfl dX9_run_16 h (fun M14 h => ?_)
    refine X_iconst 0 dX9_run_19 rfl ?_
    refine X_istoreL_n (fun v15 => [.ref 149, .int v15]) dX9_run_20 (Nat.le_of_ble_eq_true rfl) (Nat.le_of_ble_eq_true rfl) (xcat1_of rfl) h (fun _ => rfl) (fun v15 h => ?_)
    refine X_iconst 1 dX9_run_21 rfl ?_
    refine X_istoreL_n (fun v16 => [.ref 149, .int v15, .int v16]) dX9_run_22 (Nat.le_of_ble_eq_true rfl) (Nat.le_of_ble_eq_true rfl) (xcat1_of rfl) h (fun _ => rfl) (fun v16 h => ?_)
    exact x_X9_run_23 _ _ _ _ _ h
  · refine X_bipush (-3) dX9_run_7 rfl ?_
    exact X_retI dX9_run_9 rfl (Nat.le_refl _) (Nat.le_refl _) h
def f_X9_undo_22 : Nat → xM → Int32 → Option (Int32 × xM)
  | 0, _, _ => none
  | fu + 1, M, i1 =>
    if 916 ≤ i1 then (
      some ((M 149 2), M))
    else (
      xgd (xin ((916 * (M 149 2)) + i1) 4580) <|
      xgd (xin i1 916) <| xl (xw M 150 i1.toNatClampNeg (M 151 ((916 * (M 149 2)) + i1).toNatClampNeg)) fun M3 =>
      xl (i1 + 1) fun v4 =>
      (f_X9_undo_22 fu) M3 v4)
set_option maxHeartbeats 1000000 in
theorem x_X9_undo_22 {ξ : xX} : ∀ (fu : Nat) (M : xM) (i1 : Int32) (z : (Int32 × xM)), f_X9_undo_22 fu M i1 = some z → X ξ mX9_undo 22 [.ref 149, .int i1] [] SH M 0 0 (xr (some (.int z.1)) SH z.2) := by
  intro fu
  induction fu with
  | zero => intro M i1 z h; rw [f_X9_undo_22] at h; cases h
  | succ fu ih =>
    intro M i1 z h
    rw [f_X9_undo_22] at h
    refine X_iload_n (x := i1) dX9_undo_22 rfl ?_
    refine X_sipush 916 dX9_undo_23 rfl ?_
    refine X_icmp_ge 56 dX9_undo_26 (by decide) h (fun h => ?_) (fun h => ?_)
    · refine X_aload_n (x := 149) dX9_undo_56 rfl ?_
      refine X_get (v := .int (M 149 2)) kF_RX9_38 sh_149 rfl rfl dX9_undo_57 ?_
      exact X_retI dX9_undo_60 rfl (Nat.le_refl _) (Nat.le_refl _) h
    · refine X_aload_n (x := 149) dX9_undo_29 rfl ?_
      refine X_get (v := .ref 150) kF_RX9_7 sh_149 rfl rfl dX9_undo_30 ?_
      refine X_iload_n (x := i1) dX9_undo_33 rfl ?_
      refine X_aload_n (x := 149) dX9_undo_34 rfl ?_
      refine X_get (v := .ref 151) kF_RX9_13 sh_149 rfl rfl dX9_undo_35 ?_
      refine X_sipush 916 dX9_undo_38 rfl ?_
      refine X_aload_n (x := 149) dX9_undo_41 rfl ?_
      refine X_get (v := .int (M 149 2)) kF_RX9_38 sh_149 rfl rfl dX9_undo_42 ?_
      refine X_imul dX9_undo_45 ?_
      refine X_iload_n (x := i1) dX9_undo_46 rfl ?_
      refine X_iadd dX9_undo_47 ?_
      refine X_iald sh_151 dX9_undo_48 h (fun h => ?_)
      refine X_iast sh_150 dX9_undo_49 h (fun M3 h => ?_)
      refine X_iincL (x := i1) 1 (fun v4 => [.ref 149, .int v4]) dX9_undo_50 rfl rfl (Nat.le_of_ble_eq_true rfl) (xcat1_of rfl) h (fun _ => rfl) (fun v4 h => ?_)
      refine X_goto 22 dX9_undo_53 (by decide) ?_
      exact ih _ _ _ h
def f_X9_undo (M : xM) : Option (Int32 × xM) :=
  if (M 149 2) = 0 then (
    some ((-3), M))
  else (
    xl (xw M 149 2 ((M 149 2) - 1)) fun M5 =>
    xl (0 : Int32) fun v6 =>
    f_X9_undo_22 xFU M5 v6)
set_option maxHeartbeats 1000000 in
theorem x_X9_undo {ξ : xX} {M : xM} {z : (Int32 × xM)} (h : f_X9_undo M = some z) : X ξ mX9_undo 0 [.ref 149] [] SH M 0 0 (xr (some (.int z.1)) SH z.2) := by
  rw [f_X9_undo] at h
  refine X_aload_n (x := 149) dX9_undo_0 rfl ?_
  refine X_get (v := .int (M 149 2)) kF_RX9_38 sh_149 rfl rfl dX9_undo_1 ?_
  refine X_if_ne 10 dX9_undo_4 (by decide) h (fun h => ?_) (fun h => ?_)
  · refine X_aload_n (x := 149) dX9_undo_10 rfl ?_
    refine X_dup dX9_undo_11 rfl ?_
    refine X_get (v := .int (M 149 2)) kF_RX9_38 sh_149 rfl rfl dX9_undo_12 ?_
    refine X_iconst 1 dX9_undo_15 rfl ?_
    refine X_isub dX9_undo_16 ?_
    refine X_putI kF_RX9_38 sh_149 rfl rfl rfl dX9_undo_17 h (fun M5 h => ?_)
    refine X_iconst 0 dX9_undo_20 rfl ?_
    refine X_istoreL_n (fun v6 => [.ref 149, .int v6]) dX9_undo_21 (Nat.le_of_ble_eq_true rfl) (Nat.le_of_ble_eq_true rfl) (xcat1_of rfl) h (fun _ => rfl) (fun v6 h => ?_)
    exact x_X9_undo_22 _ _ _ _ h
  · refine X_bipush (-3) dX9_undo_7 rfl ?_
    exact X_retI dX9_undo_9 rfl (Nat.le_refl _) (Nat.le_refl _) h
def f_X9_save_13 : Nat → xM → Int32 → Int32 → Option (Int32 × xM)
  | 0, _, _, _ => none
  | fu + 1, M, i1, i2 =>
    if 916 ≤ i2 then (
      xgd (xin i1 2) <| xl (xw M 153 i1.toNatClampNeg 1) fun M3 =>
      xgd (xin 0 916) <|
      some ((M3 150 (0 : Int32).toNatClampNeg), M3))
    else (
      xgd (xin i2 916) <|
      xgd (xin ((916 * i1) + i2) 1832) <| xl (xw M 152 ((916 * i1) + i2).toNatClampNeg (M 150 i2.toNatClampNeg)) fun M4 =>
      xl (i2 + 1) fun v5 =>
      (f_X9_save_13 fu) M4 i1 v5)
set_option maxHeartbeats 1000000 in
theorem x_X9_save_13 {ξ : xX} : ∀ (fu : Nat) (M : xM) (i1 i2 : Int32) (z : (Int32 × xM)), f_X9_save_13 fu M i1 i2 = some z → X ξ mX9_save 13 [.ref 149, .int i1, .int i2] [] SH M 0 0 (xr (some (.int z.1)) SH z.2) := by
  intro fu
  induction fu with
  | zero => intro M i1 i2 z h; rw [f_X9_save_13] at h; cases h
  | succ fu ih =>
    intro M i1 i2 z h
    rw [f_X9_save_13] at h
    refine X_iload_n (x := i2) dX9_save_13 rfl ?_
    refine X_sipush 916 dX9_save_14 rfl ?_
    refine X_icmp_ge 44 dX9_save_17 (by decide) h (fun h => ?_) (fun h => ?_)
    · refine X_aload_n (x := 149) dX9_save_44 rfl ?_
      refine X_get (v := .ref 153) kF_RX9_19 sh_149 rfl rfl dX9_save_45 ?_
      refine X_iload_n (x := i1) dX9_save_48 rfl ?_
      refine X_iconst 1 dX9_save_49 rfl ?_
      refine X_zast sh_153 rfl dX9_save_50 h (fun M3 h => ?_)
      refine X_aload_n (x := 149) dX9_save_51 rfl ?_
      refine X_get (v := .ref 150) kF_RX9_7 sh_149 rfl rfl dX9_save_52 ?_
      refine X_iconst 0 dX9_save_55 rfl ?_
      refine X_iald sh_150 dX9_save_56 h (fun h => ?_)
      exact X_retI dX9_save_57 rfl (Nat.le_refl _) (Nat.le_refl _) h
    · refine X_aload_n (x := 149) dX9_save_20 rfl ?_
      refine X_get (v := .ref 152) kF_RX9_16 sh_149 rfl rfl dX9_save_21 ?_
      refine X_sipush 916 dX9_save_24 rfl ?_
      refine X_iload_n (x := i1) dX9_save_27 rfl ?_
      refine X_imul dX9_save_28 ?_
      refine X_iload_n (x := i2) dX9_save_29 rfl ?_
      refine X_iadd dX9_save_30 ?_
      refine X_aload_n (x := 149) dX9_save_31 rfl ?_
      refine X_get (v := .ref 150) kF_RX9_7 sh_149 rfl rfl dX9_save_32 ?_
      refine X_iload_n (x := i2) dX9_save_35 rfl ?_
      refine X_iald sh_150 dX9_save_36 h (fun h => ?_)
      refine X_iast sh_152 dX9_save_37 h (fun M4 h => ?_)
      refine X_iincL (x := i2) 1 (fun v5 => [.ref 149, .int i1, .int v5]) dX9_save_38 rfl rfl (Nat.le_of_ble_eq_true rfl) (xcat1_of rfl) h (fun _ => rfl) (fun v5 h => ?_)
      refine X_goto 13 dX9_save_41 (by decide) ?_
      exact ih _ _ _ _ h
def f_X9_save (M : xM) (a1 : Int32) : Option (Int32 × xM) :=
  xb (f_X9_in a1 0 1) fun v6 =>
  if v6 = 0 then (
    some ((-1), M))
  else (
    xl (0 : Int32) fun v7 =>
    f_X9_save_13 xFU M a1 v7)
set_option maxHeartbeats 1000000 in
theorem x_X9_save {ξ : xX} {M : xM} {a1 : Int32} {z : (Int32 × xM)} (h : f_X9_save M a1 = some z) : X ξ mX9_save 0 [.ref 149, .int a1] [] SH M 0 0 (xr (some (.int z.1)) SH z.2) := by
  rw [f_X9_save] at h
  refine X_iload_n (x := a1) dX9_save_0 rfl ?_
  refine X_iconst 0 dX9_save_1 rfl ?_
  refine X_iconst 1 dX9_save_2 rfl ?_
  refine X_sP (μ' := mX9_in) [.int a1, .int 0, .int 1] [] kL_RX9_42 kM_X9_in rfl rfl rfl dX9_save_3 h (fun _ hv => x_X9_in hv) (fun v6 h => ?_)
  refine X_if_ne 11 dX9_save_6 (by decide) h (fun h => ?_) (fun h => ?_)
  · refine X_iconst 0 dX9_save_11 rfl ?_
    refine X_istoreL_n (fun v7 => [.ref 149, .int a1, .int v7]) dX9_save_12 (Nat.le_of_ble_eq_true rfl) (Nat.le_of_ble_eq_true rfl) (xcat1_of rfl) h (fun _ => rfl) (fun v7 h => ?_)
    exact x_X9_save_13 _ _ _ _ _ h
  · refine X_iconst (-1) dX9_save_9 rfl ?_
    exact X_retI dX9_save_10 rfl (Nat.le_refl _) (Nat.le_refl _) h
def f_X9_restore_29 : Nat → xM → Int32 → Int32 → Option (Int32 × xM)
  | 0, _, _, _ => none
  | fu + 1, M, i1, i2 =>
    if 916 ≤ i2 then (
      xgd (xin 0 916) <|
      some ((M 150 (0 : Int32).toNatClampNeg), M))
    else (
      xgd (xin ((916 * i1) + i2) 1832) <|
      xgd (xin i2 916) <| xl (xw M 150 i2.toNatClampNeg (M 152 ((916 * i1) + i2).toNatClampNeg)) fun M3 =>
      xl (i2 + 1) fun v4 =>
      (f_X9_restore_29 fu) M3 i1 v4)
set_option maxHeartbeats 1000000 in
theorem x_X9_restore_29 {ξ : xX} : ∀ (fu : Nat) (M : xM) (i1 i2 : Int32) (z : (Int32 × xM)), f_X9_restore_29 fu M i1 i2 = some z → X ξ mX9_restore 29 [.ref 149, .int i1, .int i2] [] SH M 0 0 (xr (some (.int z.1)) SH z.2) := by
  intro fu
  induction fu with
  | zero => intro M i1 i2 z h; rw [f_X9_restore_29] at h; cases h
  | succ fu ih =>
    intro M i1 i2 z h
    rw [f_X9_restore_29] at h
    refine X_iload_n (x := i2) dX9_restore_29 rfl ?_
    refine X_sipush 916 dX9_restore_30 rfl ?_
    refine X_icmp_ge 60 dX9_restore_33 (by decide) h (fun h => ?_) (fun h => ?_)
    · refine X_aload_n (x := 149) dX9_restore_60 rfl ?_
      refine X_get (v := .ref 150) kF_RX9_7 sh_149 rfl rfl dX9_restore_61 ?_
      refine X_iconst 0 dX9_restore_64 rfl ?_
      refine X_iald sh_150 dX9_restore_65 h (fun h => ?_)
      exact X_retI dX9_restore_66 rfl (Nat.le_refl _) (Nat.le_refl _) h
    · refine X_aload_n (x := 149) dX9_restore_36 rfl ?_
      refine X_get (v := .ref 150) kF_RX9_7 sh_149 rfl rfl dX9_restore_37 ?_
      refine X_iload_n (x := i2) dX9_restore_40 rfl ?_
      refine X_aload_n (x := 149) dX9_restore_41 rfl ?_
      refine X_get (v := .ref 152) kF_RX9_16 sh_149 rfl rfl dX9_restore_42 ?_
      refine X_sipush 916 dX9_restore_45 rfl ?_
      refine X_iload_n (x := i1) dX9_restore_48 rfl ?_
      refine X_imul dX9_restore_49 ?_
      refine X_iload_n (x := i2) dX9_restore_50 rfl ?_
      refine X_iadd dX9_restore_51 ?_
      refine X_iald sh_152 dX9_restore_52 h (fun h => ?_)
      refine X_iast sh_150 dX9_restore_53 h (fun M3 h => ?_)
      refine X_iincL (x := i2) 1 (fun v4 => [.ref 149, .int i1, .int v4]) dX9_restore_54 rfl rfl (Nat.le_of_ble_eq_true rfl) (xcat1_of rfl) h (fun _ => rfl) (fun v4 h => ?_)
      refine X_goto 29 dX9_restore_57 (by decide) ?_
      exact ih _ _ _ _ h
def f_X9_restore (M : xM) (a1 : Int32) : Option (Int32 × xM) :=
  xb (f_X9_in a1 0 1) fun v5 =>
  if v5 = 0 then (
    some ((-1), M))
  else (
    xgd (xin a1 2) <|
    if (M 153 a1.toNatClampNeg) = 0 then (
      some ((-3), M))
    else (
      xb (f_X9_record M) fun M6 =>
      xl (0 : Int32) fun v7 =>
      f_X9_restore_29 xFU M6 a1 v7))
set_option maxHeartbeats 1000000 in
theorem x_X9_restore {ξ : xX} {M : xM} {a1 : Int32} {z : (Int32 × xM)} (h : f_X9_restore M a1 = some z) : X ξ mX9_restore 0 [.ref 149, .int a1] [] SH M 0 0 (xr (some (.int z.1)) SH z.2) := by
  rw [f_X9_restore] at h
  refine X_iload_n (x := a1) dX9_restore_0 rfl ?_
  refine X_iconst 0 dX9_restore_1 rfl ?_
  refine X_iconst 1 dX9_restore_2 rfl ?_
  refine X_sP (μ' := mX9_in) [.int a1, .int 0, .int 1] [] kL_RX9_42 kM_X9_in rfl rfl rfl dX9_restore_3 h (fun _ hv => x_X9_in hv) (fun v5 h => ?_)
  refine X_if_ne 11 dX9_restore_6 (by decide) h (fun h => ?_) (fun h => ?_)
  · refine X_aload_n (x := 149) dX9_restore_11 rfl ?_
    refine X_get (v := .ref 153) kF_RX9_19 sh_149 rfl rfl dX9_restore_12 ?_
    refine X_iload_n (x := a1) dX9_restore_15 rfl ?_
    refine X_zald sh_153 dX9_restore_16 h (fun h => ?_)
    refine X_if_ne 23 dX9_restore_17 (by decide) h (fun h => ?_) (fun h => ?_)
    · refine X_aload_n (x := 149) dX9_restore_23 rfl ?_
      refine X_vV (μ' := mX9_record) [] [] kL_RX9_54 kM_X9_record rv_149 rfl rfl rfl dX9_restore_24 h (fun _ hv => x_X9_record hv) (fun M6 h => ?_)
      refine X_iconst 0 dX9_restore_27 rfl ?_
      refine X_istoreL_n (fun v7 => [.ref 149, .int a1, .int v7]) dX9_restore_28 (Nat.le_of_ble_eq_true rfl) (Nat.le_of_ble_eq_true rfl) (xcat1_of rfl) h (fun _ => rfl) (fun v7 h => ?_)
      exact x_X9_restore_29 _ _ _ _ _ h
    · refine X_bipush (-3) dX9_restore_20 rfl ?_
      exact X_retI dX9_restore_22 rfl (Nat.le_refl _) (Nat.le_refl _) h
  · refine X_iconst (-1) dX9_restore_9 rfl ?_
    exact X_retI dX9_restore_10 rfl (Nat.le_refl _) (Nat.le_refl _) h
def f_X9_carrier_62 (M : xM) (k29 : Int32 → Int32 → Int32 → Int32 → Option Int32) (i1 : Int32) (i2 : Int32) (i3 : Int32) (i4 : Int32) (s0 : Int32) (s1 : Int32) : Option Int32 :=
  xl (s0 + s1) fun v5 =>
  xl (i4 + 1) fun v6 =>
  k29 i1 i2 v5 v6
set_option maxHeartbeats 1000000 in
theorem x_X9_carrier_62 {ξ : xX} {M : xM} {k29 : Int32 → Int32 → Int32 → Int32 → Option Int32} {i1 : Int32} {i2 : Int32} {i3 : Int32} {i4 : Int32} {s0 : Int32} {s1 : Int32} (hk29 : ∀ (j1 j2 j3 j4 : Int32) (z : Int32), k29 j1 j2 j3 j4 = some z → X ξ mX9_carrier 29 [.ref 149, .int j1, .int j2, .int j3, .int j4] [] SH M 0 0 (xr (some (.int z)) SH M)) {z : Int32} (h : f_X9_carrier_62 M k29 i1 i2 i3 i4 s0 s1 = some z) : X ξ mX9_carrier 62 [.ref 149, .int i1, .int i2, .int i3, .int i4] [.int s1, .int s0] SH M 0 0 (xr (some (.int z)) SH M) := by
  rw [f_X9_carrier_62] at h
  refine X_iadd dX9_carrier_62 ?_
  refine X_istoreL_n (fun v5 => [.ref 149, .int i1, .int i2, .int v5, .int i4]) dX9_carrier_63 (Nat.le_of_ble_eq_true rfl) (Nat.le_of_ble_eq_true rfl) (xcat1_of rfl) h (fun _ => rfl) (fun v5 h => ?_)
  refine X_iincL (x := i4) 1 (fun v6 => [.ref 149, .int i1, .int i2, .int v5, .int v6]) dX9_carrier_64 rfl rfl (Nat.le_of_ble_eq_true rfl) (xcat1_of rfl) h (fun _ => rfl) (fun v6 h => ?_)
  refine X_goto 29 dX9_carrier_67 (by decide) ?_
  exact hk29 _ _ _ _ _ h
def f_X9_carrier_29 (M : xM) : Nat → Int32 → Int32 → Int32 → Int32 → Option Int32
  | 0, _, _, _, _ => none
  | fu + 1, i1, i2, i3, i4 =>
    xgd (xin 3 916) <|
    if (M 150 (3 : Int32).toNatClampNeg) ≤ i4 then (
      if 5 ≤ i2 then (
        if i2 = 5 then (
          xb (f_X9_passesOf M i1) fun v7 =>
          some v7)
        else (
          some i3))
      else (
        xgd (xin ((24 + (5 * i1)) + i2) 916) <|
        some (M 150 ((24 + (5 * i1)) + i2).toNatClampNeg)))
    else (
      xgd (xin (84 + (5 * i4)) 916) <|
      if (M 150 (84 + (5 * i4)).toNatClampNeg) = i1 then (
        f_X9_carrier_62 M (f_X9_carrier_29 M fu) i1 i2 i3 i4 i3 1)
      else (
        f_X9_carrier_62 M (f_X9_carrier_29 M fu) i1 i2 i3 i4 i3 0))
set_option maxHeartbeats 1000000 in
theorem x_X9_carrier_29 {ξ : xX} {M : xM} : ∀ (fu : Nat) (i1 i2 i3 i4 : Int32) (z : Int32), f_X9_carrier_29 M fu i1 i2 i3 i4 = some z → X ξ mX9_carrier 29 [.ref 149, .int i1, .int i2, .int i3, .int i4] [] SH M 0 0 (xr (some (.int z)) SH M) := by
  intro fu
  induction fu with
  | zero => intro i1 i2 i3 i4 z h; rw [f_X9_carrier_29] at h; cases h
  | succ fu ih =>
    intro i1 i2 i3 i4 z h
    rw [f_X9_carrier_29] at h
    refine X_iload (x := i4) dX9_carrier_29 rfl ?_
    refine X_aload_n (x := 149) dX9_carrier_31 rfl ?_
    refine X_get (v := .ref 150) kF_RX9_7 sh_149 rfl rfl dX9_carrier_32 ?_
    refine X_iconst 3 dX9_carrier_35 rfl ?_
    refine X_iald sh_150 dX9_carrier_36 h (fun h => ?_)
    refine X_icmp_ge 70 dX9_carrier_37 (by decide) h (fun h => ?_) (fun h => ?_)
    · refine X_iload_n (x := i2) dX9_carrier_70 rfl ?_
      refine X_iconst 5 dX9_carrier_71 rfl ?_
      refine X_icmp_ge 91 dX9_carrier_72 (by decide) h (fun h => ?_) (fun h => ?_)
      · refine X_iload_n (x := i2) dX9_carrier_91 rfl ?_
        refine X_iconst 5 dX9_carrier_92 rfl ?_
        refine X_icmp_ne 104 dX9_carrier_93 (by decide) h (fun h => ?_) (fun h => ?_)
        · refine X_iload_n (x := i3) dX9_carrier_104 rfl ?_
          exact X_retP dX9_carrier_105 rfl (Nat.le_refl _) (Nat.le_refl _) h
        · refine X_aload_n (x := 149) dX9_carrier_96 rfl ?_
          refine X_iload_n (x := i1) dX9_carrier_97 rfl ?_
          refine X_vP (μ' := mX9_passesOf) [.int i1] [] kL_RX9_86 kM_X9_passesOf rv_149 rfl rfl rfl dX9_carrier_98 h (fun _ hv => x_X9_passesOf hv) (fun v7 h => ?_)
          refine X_goto 105 dX9_carrier_101 (by decide) ?_
          exact X_retP dX9_carrier_105 rfl (Nat.le_refl _) (Nat.le_refl _) h
      · refine X_aload_n (x := 149) dX9_carrier_75 rfl ?_
        refine X_get (v := .ref 150) kF_RX9_7 sh_149 rfl rfl dX9_carrier_76 ?_
        refine X_bipush 24 dX9_carrier_79 rfl ?_
        refine X_iconst 5 dX9_carrier_81 rfl ?_
        refine X_iload_n (x := i1) dX9_carrier_82 rfl ?_
        refine X_imul dX9_carrier_83 ?_
        refine X_iadd dX9_carrier_84 ?_
        refine X_iload_n (x := i2) dX9_carrier_85 rfl ?_
        refine X_iadd dX9_carrier_86 ?_
        refine X_iald sh_150 dX9_carrier_87 h (fun h => ?_)
        refine X_goto 105 dX9_carrier_88 (by decide) ?_
        exact X_retP dX9_carrier_105 rfl (Nat.le_refl _) (Nat.le_refl _) h
    · refine X_iload_n (x := i3) dX9_carrier_40 rfl ?_
      refine X_aload_n (x := 149) dX9_carrier_41 rfl ?_
      refine X_get (v := .ref 150) kF_RX9_7 sh_149 rfl rfl dX9_carrier_42 ?_
      refine X_bipush 84 dX9_carrier_45 rfl ?_
      refine X_iconst 5 dX9_carrier_47 rfl ?_
      refine X_iload (x := i4) dX9_carrier_48 rfl ?_
      refine X_imul dX9_carrier_50 ?_
      refine X_iadd dX9_carrier_51 ?_
      refine X_iald sh_150 dX9_carrier_52 h (fun h => ?_)
      refine X_iload_n (x := i1) dX9_carrier_53 rfl ?_
      refine X_icmp_ne 61 dX9_carrier_54 (by decide) h (fun h => ?_) (fun h => ?_)
      · refine X_iconst 0 dX9_carrier_61 rfl ?_
        exact x_X9_carrier_62 ih h
      · refine X_iconst 1 dX9_carrier_57 rfl ?_
        refine X_goto 62 dX9_carrier_58 (by decide) ?_
        exact x_X9_carrier_62 ih h
def f_X9_carrier (M : xM) (a1 a2 : Int32) : Option Int32 :=
  xb (f_X9_isOne M 1 a1) fun v8 =>
  if v8 = 0 then (
    some (-1))
  else (
    xb (f_X9_in a2 0 6) fun v9 =>
    if v9 = 0 then (
      some (-2))
    else (
      xl (0 : Int32) fun v10 =>
      xl (0 : Int32) fun v11 =>
      f_X9_carrier_29 M xFU a1 a2 v10 v11))
set_option maxHeartbeats 1000000 in
theorem x_X9_carrier {ξ : xX} {M : xM} {a1 a2 : Int32} {z : Int32} (h : f_X9_carrier M a1 a2 = some z) : X ξ mX9_carrier 0 [.ref 149, .int a1, .int a2] [] SH M 0 0 (xr (some (.int z)) SH M) := by
  rw [f_X9_carrier] at h
  refine X_aload_n (x := 149) dX9_carrier_0 rfl ?_
  refine X_iconst 1 dX9_carrier_1 rfl ?_
  refine X_iload_n (x := a1) dX9_carrier_2 rfl ?_
  refine X_vP (μ' := mX9_isOne) [.int 1, .int a1] [] kL_RX9_64 kM_X9_isOne rv_149 rfl rfl rfl dX9_carrier_3 h (fun _ hv => x_X9_isOne hv) (fun v8 h => ?_)
  refine X_if_ne 11 dX9_carrier_6 (by decide) h (fun h => ?_) (fun h => ?_)
  · refine X_iload_n (x := a2) dX9_carrier_11 rfl ?_
    refine X_iconst 0 dX9_carrier_12 rfl ?_
    refine X_bipush 6 dX9_carrier_13 rfl ?_
    refine X_sP (μ' := mX9_in) [.int a2, .int 0, .int 6] [] kL_RX9_42 kM_X9_in rfl rfl rfl dX9_carrier_15 h (fun _ hv => x_X9_in hv) (fun v9 h => ?_)
    refine X_if_ne 24 dX9_carrier_18 (by decide) h (fun h => ?_) (fun h => ?_)
    · refine X_iconst 0 dX9_carrier_24 rfl ?_
      refine X_istoreL_n (fun v10 => [.ref 149, .int a1, .int a2, .int v10]) dX9_carrier_25 (Nat.le_of_ble_eq_true rfl) (Nat.le_of_ble_eq_true rfl) (xcat1_of rfl) h (fun _ => rfl) (fun v10 h => ?_)
      refine X_iconst 0 dX9_carrier_26 rfl ?_
      refine X_istoreL (fun v11 => [.ref 149, .int a1, .int a2, .int v10, .int v11]) dX9_carrier_27 (Nat.le_of_ble_eq_true rfl) (Nat.le_of_ble_eq_true rfl) (xcat1_of rfl) h (fun _ => rfl) (fun v11 h => ?_)
      exact x_X9_carrier_29 _ _ _ _ _ _ h
    · refine X_bipush (-2) dX9_carrier_21 rfl ?_
      exact X_retP dX9_carrier_23 rfl (Nat.le_refl _) (Nat.le_refl _) h
  · refine X_iconst (-1) dX9_carrier_9 rfl ?_
    exact X_retP dX9_carrier_10 rfl (Nat.le_refl _) (Nat.le_refl _) h
def f_X9_machine_65 (M : xM) (k28 : Int32 → Int32 → Int32 → Int32 → Option Int32) (i1 : Int32) (i2 : Int32) (i3 : Int32) (i4 : Int32) (s0 : Int32) (s1 : Int32) : Option Int32 :=
  xl (s0 + s1) fun v5 =>
  xl (i4 + 1) fun v6 =>
  k28 i1 i2 v5 v6
set_option maxHeartbeats 1000000 in
theorem x_X9_machine_65 {ξ : xX} {M : xM} {k28 : Int32 → Int32 → Int32 → Int32 → Option Int32} {i1 : Int32} {i2 : Int32} {i3 : Int32} {i4 : Int32} {s0 : Int32} {s1 : Int32} (hk28 : ∀ (j1 j2 j3 j4 : Int32) (z : Int32), k28 j1 j2 j3 j4 = some z → X ξ mX9_machine 28 [.ref 149, .int j1, .int j2, .int j3, .int j4] [] SH M 0 0 (xr (some (.int z)) SH M)) {z : Int32} (h : f_X9_machine_65 M k28 i1 i2 i3 i4 s0 s1 = some z) : X ξ mX9_machine 65 [.ref 149, .int i1, .int i2, .int i3, .int i4] [.int s1, .int s0] SH M 0 0 (xr (some (.int z)) SH M) := by
  rw [f_X9_machine_65] at h
  refine X_iadd dX9_machine_65 ?_
  refine X_istoreL_n (fun v5 => [.ref 149, .int i1, .int i2, .int v5, .int i4]) dX9_machine_66 (Nat.le_of_ble_eq_true rfl) (Nat.le_of_ble_eq_true rfl) (xcat1_of rfl) h (fun _ => rfl) (fun v5 h => ?_)
  refine X_iincL (x := i4) 1 (fun v6 => [.ref 149, .int i1, .int i2, .int v5, .int v6]) dX9_machine_67 rfl rfl (Nat.le_of_ble_eq_true rfl) (xcat1_of rfl) h (fun _ => rfl) (fun v6 h => ?_)
  refine X_goto 28 dX9_machine_70 (by decide) ?_
  exact hk28 _ _ _ _ _ h
def f_X9_machine_28 (M : xM) : Nat → Int32 → Int32 → Int32 → Int32 → Option Int32
  | 0, _, _, _, _ => none
  | fu + 1, i1, i2, i3, i4 =>
    xgd (xin 4 916) <|
    if (M 150 (4 : Int32).toNatClampNeg) ≤ i4 then (
      if 5 ≤ i2 then (
        some i3)
      else (
        xgd (xin ((64 + (5 * i1)) + i2) 916) <|
        some (M 150 ((64 + (5 * i1)) + i2).toNatClampNeg)))
    else (
      xgd (xin ((420 + (9 * i4)) + 1) 916) <|
      if (M 150 ((420 + (9 * i4)) + 1).toNatClampNeg) = i1 then (
        f_X9_machine_65 M (f_X9_machine_28 M fu) i1 i2 i3 i4 i3 1)
      else (
        f_X9_machine_65 M (f_X9_machine_28 M fu) i1 i2 i3 i4 i3 0))
set_option maxHeartbeats 1000000 in
theorem x_X9_machine_28 {ξ : xX} {M : xM} : ∀ (fu : Nat) (i1 i2 i3 i4 : Int32) (z : Int32), f_X9_machine_28 M fu i1 i2 i3 i4 = some z → X ξ mX9_machine 28 [.ref 149, .int i1, .int i2, .int i3, .int i4] [] SH M 0 0 (xr (some (.int z)) SH M) := by
  intro fu
  induction fu with
  | zero => intro i1 i2 i3 i4 z h; rw [f_X9_machine_28] at h; cases h
  | succ fu ih =>
    intro i1 i2 i3 i4 z h
    rw [f_X9_machine_28] at h
    refine X_iload (x := i4) dX9_machine_28 rfl ?_
    refine X_aload_n (x := 149) dX9_machine_30 rfl ?_
    refine X_get (v := .ref 150) kF_RX9_7 sh_149 rfl rfl dX9_machine_31 ?_
    refine X_iconst 4 dX9_machine_34 rfl ?_
    refine X_iald sh_150 dX9_machine_35 h (fun h => ?_)
    refine X_icmp_ge 73 dX9_machine_36 (by decide) h (fun h => ?_) (fun h => ?_)
    · refine X_iload_n (x := i2) dX9_machine_73 rfl ?_
      refine X_iconst 5 dX9_machine_74 rfl ?_
      refine X_icmp_ge 94 dX9_machine_75 (by decide) h (fun h => ?_) (fun h => ?_)
      · refine X_iload_n (x := i3) dX9_machine_94 rfl ?_
        exact X_retP dX9_machine_95 rfl (Nat.le_refl _) (Nat.le_refl _) h
      · refine X_aload_n (x := 149) dX9_machine_78 rfl ?_
        refine X_get (v := .ref 150) kF_RX9_7 sh_149 rfl rfl dX9_machine_79 ?_
        refine X_bipush 64 dX9_machine_82 rfl ?_
        refine X_iconst 5 dX9_machine_84 rfl ?_
        refine X_iload_n (x := i1) dX9_machine_85 rfl ?_
        refine X_imul dX9_machine_86 ?_
        refine X_iadd dX9_machine_87 ?_
        refine X_iload_n (x := i2) dX9_machine_88 rfl ?_
        refine X_iadd dX9_machine_89 ?_
        refine X_iald sh_150 dX9_machine_90 h (fun h => ?_)
        refine X_goto 95 dX9_machine_91 (by decide) ?_
        exact X_retP dX9_machine_95 rfl (Nat.le_refl _) (Nat.le_refl _) h
    · refine X_iload_n (x := i3) dX9_machine_39 rfl ?_
      refine X_aload_n (x := 149) dX9_machine_40 rfl ?_
      refine X_get (v := .ref 150) kF_RX9_7 sh_149 rfl rfl dX9_machine_41 ?_
      refine X_sipush 420 dX9_machine_44 rfl ?_
      refine X_bipush 9 dX9_machine_47 rfl ?_
      refine X_iload (x := i4) dX9_machine_49 rfl ?_
      refine X_imul dX9_machine_51 ?_
      refine X_iadd dX9_machine_52 ?_
      refine X_iconst 1 dX9_machine_53 rfl ?_
      refine X_iadd dX9_machine_54 ?_
      refine X_iald sh_150 dX9_machine_55 h (fun h => ?_)
      refine X_iload_n (x := i1) dX9_machine_56 rfl ?_
      refine X_icmp_ne 64 dX9_machine_57 (by decide) h (fun h => ?_) (fun h => ?_)
      · refine X_iconst 0 dX9_machine_64 rfl ?_
        exact x_X9_machine_65 ih h
      · refine X_iconst 1 dX9_machine_60 rfl ?_
        refine X_goto 65 dX9_machine_61 (by decide) ?_
        exact x_X9_machine_65 ih h
def f_X9_machine (M : xM) (a1 a2 : Int32) : Option Int32 :=
  xb (f_X9_isOne M 2 a1) fun v7 =>
  if v7 = 0 then (
    some (-1))
  else (
    xb (f_X9_in a2 0 5) fun v8 =>
    if v8 = 0 then (
      some (-2))
    else (
      xl (0 : Int32) fun v9 =>
      xl (0 : Int32) fun v10 =>
      f_X9_machine_28 M xFU a1 a2 v9 v10))
set_option maxHeartbeats 1000000 in
theorem x_X9_machine {ξ : xX} {M : xM} {a1 a2 : Int32} {z : Int32} (h : f_X9_machine M a1 a2 = some z) : X ξ mX9_machine 0 [.ref 149, .int a1, .int a2] [] SH M 0 0 (xr (some (.int z)) SH M) := by
  rw [f_X9_machine] at h
  refine X_aload_n (x := 149) dX9_machine_0 rfl ?_
  refine X_iconst 2 dX9_machine_1 rfl ?_
  refine X_iload_n (x := a1) dX9_machine_2 rfl ?_
  refine X_vP (μ' := mX9_isOne) [.int 2, .int a1] [] kL_RX9_64 kM_X9_isOne rv_149 rfl rfl rfl dX9_machine_3 h (fun _ hv => x_X9_isOne hv) (fun v7 h => ?_)
  refine X_if_ne 11 dX9_machine_6 (by decide) h (fun h => ?_) (fun h => ?_)
  · refine X_iload_n (x := a2) dX9_machine_11 rfl ?_
    refine X_iconst 0 dX9_machine_12 rfl ?_
    refine X_iconst 5 dX9_machine_13 rfl ?_
    refine X_sP (μ' := mX9_in) [.int a2, .int 0, .int 5] [] kL_RX9_42 kM_X9_in rfl rfl rfl dX9_machine_14 h (fun _ hv => x_X9_in hv) (fun v8 h => ?_)
    refine X_if_ne 23 dX9_machine_17 (by decide) h (fun h => ?_) (fun h => ?_)
    · refine X_iconst 0 dX9_machine_23 rfl ?_
      refine X_istoreL_n (fun v9 => [.ref 149, .int a1, .int a2, .int v9]) dX9_machine_24 (Nat.le_of_ble_eq_true rfl) (Nat.le_of_ble_eq_true rfl) (xcat1_of rfl) h (fun _ => rfl) (fun v9 h => ?_)
      refine X_iconst 0 dX9_machine_25 rfl ?_
      refine X_istoreL (fun v10 => [.ref 149, .int a1, .int a2, .int v9, .int v10]) dX9_machine_26 (Nat.le_of_ble_eq_true rfl) (Nat.le_of_ble_eq_true rfl) (xcat1_of rfl) h (fun _ => rfl) (fun v10 h => ?_)
      exact x_X9_machine_28 _ _ _ _ _ _ h
    · refine X_bipush (-2) dX9_machine_20 rfl ?_
      exact X_retP dX9_machine_22 rfl (Nat.le_refl _) (Nat.le_refl _) h
  · refine X_iconst (-1) dX9_machine_9 rfl ?_
    exact X_retP dX9_machine_10 rfl (Nat.le_refl _) (Nat.le_refl _) h
def f_X9_recording (M : xM) (a1 a2 : Int32) : Option Int32 :=
  xb (f_X9_isOne M 3 a1) fun v2 =>
  if v2 = 0 then (
    some (-1))
  else (
    xb (f_X9_in a2 0 5) fun v3 =>
    if v3 = 0 then (
      some (-2))
    else (
      xl (84 + (5 * a1)) fun v4 =>
      if 4 ≤ a2 then (
        if a2 = 4 then (
          xgd (xin v4 916) <|
          xgd (xin ((24 + (5 * (M 150 v4.toNatClampNeg))) + 2) 916) <|
          xgd (xin (v4 + 1) 916) <|
          xb (f_X9_sideOfAll (M 150 ((24 + (5 * (M 150 v4.toNatClampNeg))) + 2).toNatClampNeg) (M 150 (v4 + 1).toNatClampNeg)) fun v5 =>
          some v5)
        else (
          xgd (xin (v4 + 4) 916) <|
          some (M 150 (v4 + 4).toNatClampNeg)))
      else (
        xgd (xin (v4 + a2) 916) <|
        some (M 150 (v4 + a2).toNatClampNeg))))
set_option maxHeartbeats 1000000 in
theorem x_X9_recording {ξ : xX} {M : xM} {a1 a2 : Int32} {z : Int32} (h : f_X9_recording M a1 a2 = some z) : X ξ mX9_recording 0 [.ref 149, .int a1, .int a2] [] SH M 0 0 (xr (some (.int z)) SH M) := by
  rw [f_X9_recording] at h
  refine X_aload_n (x := 149) dX9_recording_0 rfl ?_
  refine X_iconst 3 dX9_recording_1 rfl ?_
  refine X_iload_n (x := a1) dX9_recording_2 rfl ?_
  refine X_vP (μ' := mX9_isOne) [.int 3, .int a1] [] kL_RX9_64 kM_X9_isOne rv_149 rfl rfl rfl dX9_recording_3 h (fun _ hv => x_X9_isOne hv) (fun v2 h => ?_)
  refine X_if_ne 11 dX9_recording_6 (by decide) h (fun h => ?_) (fun h => ?_)
  · refine X_iload_n (x := a2) dX9_recording_11 rfl ?_
    refine X_iconst 0 dX9_recording_12 rfl ?_
    refine X_iconst 5 dX9_recording_13 rfl ?_
    refine X_sP (μ' := mX9_in) [.int a2, .int 0, .int 5] [] kL_RX9_42 kM_X9_in rfl rfl rfl dX9_recording_14 h (fun _ hv => x_X9_in hv) (fun v3 h => ?_)
    refine X_if_ne 23 dX9_recording_17 (by decide) h (fun h => ?_) (fun h => ?_)
    · refine X_bipush 84 dX9_recording_23 rfl ?_
      refine X_iconst 5 dX9_recording_25 rfl ?_
      refine X_iload_n (x := a1) dX9_recording_26 rfl ?_
      refine X_imul dX9_recording_27 ?_
      refine X_iadd dX9_recording_28 ?_
      refine X_istoreL_n (fun v4 => [.ref 149, .int a1, .int a2, .int v4]) dX9_recording_29 (Nat.le_of_ble_eq_true rfl) (Nat.le_of_ble_eq_true rfl) (xcat1_of rfl) h (fun _ => rfl) (fun v4 h => ?_)
      refine X_iload_n (x := a2) dX9_recording_30 rfl ?_
      refine X_iconst 4 dX9_recording_31 rfl ?_
      refine X_icmp_ge 46 dX9_recording_32 (by decide) h (fun h => ?_) (fun h => ?_)
      · refine X_iload_n (x := a2) dX9_recording_46 rfl ?_
        refine X_iconst 4 dX9_recording_47 rfl ?_
        refine X_icmp_ne 83 dX9_recording_48 (by decide) h (fun h => ?_) (fun h => ?_)
        · refine X_aload_n (x := 149) dX9_recording_83 rfl ?_
          refine X_get (v := .ref 150) kF_RX9_7 sh_149 rfl rfl dX9_recording_84 ?_
          refine X_iload_n (x := v4) dX9_recording_87 rfl ?_
          refine X_iconst 4 dX9_recording_88 rfl ?_
          refine X_iadd dX9_recording_89 ?_
          refine X_iald sh_150 dX9_recording_90 h (fun h => ?_)
          exact X_retP dX9_recording_91 rfl (Nat.le_refl _) (Nat.le_refl _) h
        · refine X_aload_n (x := 149) dX9_recording_51 rfl ?_
          refine X_get (v := .ref 150) kF_RX9_7 sh_149 rfl rfl dX9_recording_52 ?_
          refine X_bipush 24 dX9_recording_55 rfl ?_
          refine X_iconst 5 dX9_recording_57 rfl ?_
          refine X_aload_n (x := 149) dX9_recording_58 rfl ?_
          refine X_get (v := .ref 150) kF_RX9_7 sh_149 rfl rfl dX9_recording_59 ?_
          refine X_iload_n (x := v4) dX9_recording_62 rfl ?_
          refine X_iald sh_150 dX9_recording_63 h (fun h => ?_)
          refine X_imul dX9_recording_64 ?_
          refine X_iadd dX9_recording_65 ?_
          refine X_iconst 2 dX9_recording_66 rfl ?_
          refine X_iadd dX9_recording_67 ?_
          refine X_iald sh_150 dX9_recording_68 h (fun h => ?_)
          refine X_aload_n (x := 149) dX9_recording_69 rfl ?_
          refine X_get (v := .ref 150) kF_RX9_7 sh_149 rfl rfl dX9_recording_70 ?_
          refine X_iload_n (x := v4) dX9_recording_73 rfl ?_
          refine X_iconst 1 dX9_recording_74 rfl ?_
          refine X_iadd dX9_recording_75 ?_
          refine X_iald sh_150 dX9_recording_76 h (fun h => ?_)
          refine X_sP (μ' := mX9_sideOfAll) [.int (M 150 ((24 + (5 * (M 150 v4.toNatClampNeg))) + 2).toNatClampNeg), .int (M 150 (v4 + 1).toNatClampNeg)] [] kL_RX9_67 kM_X9_sideOfAll rfl rfl rfl dX9_recording_77 h (fun _ hv => x_X9_sideOfAll hv) (fun v5 h => ?_)
          refine X_goto 91 dX9_recording_80 (by decide) ?_
          exact X_retP dX9_recording_91 rfl (Nat.le_refl _) (Nat.le_refl _) h
      · refine X_aload_n (x := 149) dX9_recording_35 rfl ?_
        refine X_get (v := .ref 150) kF_RX9_7 sh_149 rfl rfl dX9_recording_36 ?_
        refine X_iload_n (x := v4) dX9_recording_39 rfl ?_
        refine X_iload_n (x := a2) dX9_recording_40 rfl ?_
        refine X_iadd dX9_recording_41 ?_
        refine X_iald sh_150 dX9_recording_42 h (fun h => ?_)
        refine X_goto 91 dX9_recording_43 (by decide) ?_
        exact X_retP dX9_recording_91 rfl (Nat.le_refl _) (Nat.le_refl _) h
    · refine X_bipush (-2) dX9_recording_20 rfl ?_
      exact X_retP dX9_recording_22 rfl (Nat.le_refl _) (Nat.le_refl _) h
  · refine X_iconst (-1) dX9_recording_9 rfl ?_
    exact X_retP dX9_recording_10 rfl (Nat.le_refl _) (Nat.le_refl _) h
def f_X9_part (M : xM) (a1 a2 a3 : Int32) : Option Int32 :=
  xb (f_X9_isOne M 3 a1) fun v2 =>
  if v2 = 0 then (
    some (-1))
  else (
    xgd (xin ((84 + (5 * a1)) + 4) 916) <|
    xb (f_X9_in a2 0 ((M 150 ((84 + (5 * a1)) + 4).toNatClampNeg) - 1)) fun v3 =>
    if v3 = 0 then (
      some (-1))
    else (
      xb (f_X9_in a3 0 4) fun v4 =>
      if v4 = 0 then (
        some (-2))
      else (
        xl ((164 + (16 * a1)) + (4 * a2)) fun v5 =>
        if 4 ≤ a3 then (
          xgd (xin 0 916) <|
          xgd (xin (v5 + 3) 916) <|
          if (M 150 (v5 + 3).toNatClampNeg) ≤ (M 150 (0 : Int32).toNatClampNeg) then (
            some 0)
          else (
            some 1))
        else (
          xgd (xin (v5 + a3) 916) <|
          some (M 150 (v5 + a3).toNatClampNeg)))))
set_option maxHeartbeats 1000000 in
theorem x_X9_part {ξ : xX} {M : xM} {a1 a2 a3 : Int32} {z : Int32} (h : f_X9_part M a1 a2 a3 = some z) : X ξ mX9_part 0 [.ref 149, .int a1, .int a2, .int a3] [] SH M 0 0 (xr (some (.int z)) SH M) := by
  rw [f_X9_part] at h
  refine X_aload_n (x := 149) dX9_part_0 rfl ?_
  refine X_iconst 3 dX9_part_1 rfl ?_
  refine X_iload_n (x := a1) dX9_part_2 rfl ?_
  refine X_vP (μ' := mX9_isOne) [.int 3, .int a1] [] kL_RX9_64 kM_X9_isOne rv_149 rfl rfl rfl dX9_part_3 h (fun _ hv => x_X9_isOne hv) (fun v2 h => ?_)
  refine X_if_eq 32 dX9_part_6 (by decide) h (fun h => ?_) (fun h => ?_)
  · refine X_iconst (-1) dX9_part_32 rfl ?_
    exact X_retP dX9_part_33 rfl (Nat.le_refl _) (Nat.le_refl _) h
  · refine X_iload_n (x := a2) dX9_part_9 rfl ?_
    refine X_iconst 0 dX9_part_10 rfl ?_
    refine X_aload_n (x := 149) dX9_part_11 rfl ?_
    refine X_get (v := .ref 150) kF_RX9_7 sh_149 rfl rfl dX9_part_12 ?_
    refine X_bipush 84 dX9_part_15 rfl ?_
    refine X_iconst 5 dX9_part_17 rfl ?_
    refine X_iload_n (x := a1) dX9_part_18 rfl ?_
    refine X_imul dX9_part_19 ?_
    refine X_iadd dX9_part_20 ?_
    refine X_iconst 4 dX9_part_21 rfl ?_
    refine X_iadd dX9_part_22 ?_
    refine X_iald sh_150 dX9_part_23 h (fun h => ?_)
    refine X_iconst 1 dX9_part_24 rfl ?_
    refine X_isub dX9_part_25 ?_
    refine X_sP (μ' := mX9_in) [.int a2, .int 0, .int ((M 150 ((84 + (5 * a1)) + 4).toNatClampNeg) - 1)] [] kL_RX9_42 kM_X9_in rfl rfl rfl dX9_part_26 h (fun _ hv => x_X9_in hv) (fun v3 h => ?_)
    refine X_if_ne 34 dX9_part_29 (by decide) h (fun h => ?_) (fun h => ?_)
    · refine X_iload_n (x := a3) dX9_part_34 rfl ?_
      refine X_iconst 0 dX9_part_35 rfl ?_
      refine X_iconst 4 dX9_part_36 rfl ?_
      refine X_sP (μ' := mX9_in) [.int a3, .int 0, .int 4] [] kL_RX9_42 kM_X9_in rfl rfl rfl dX9_part_37 h (fun _ hv => x_X9_in hv) (fun v4 h => ?_)
      refine X_if_ne 46 dX9_part_40 (by decide) h (fun h => ?_) (fun h => ?_)
      · refine X_sipush 164 dX9_part_46 rfl ?_
        refine X_bipush 16 dX9_part_49 rfl ?_
        refine X_iload_n (x := a1) dX9_part_51 rfl ?_
        refine X_imul dX9_part_52 ?_
        refine X_iadd dX9_part_53 ?_
        refine X_iconst 4 dX9_part_54 rfl ?_
        refine X_iload_n (x := a2) dX9_part_55 rfl ?_
        refine X_imul dX9_part_56 ?_
        refine X_iadd dX9_part_57 ?_
        refine X_istoreL (fun v5 => [.ref 149, .int a1, .int a2, .int a3, .int v5]) dX9_part_58 (Nat.le_of_ble_eq_true rfl) (Nat.le_of_ble_eq_true rfl) (xcat1_of rfl) h (fun _ => rfl) (fun v5 h => ?_)
        refine X_iload_n (x := a3) dX9_part_60 rfl ?_
        refine X_iconst 4 dX9_part_61 rfl ?_
        refine X_icmp_ge 77 dX9_part_62 (by decide) h (fun h => ?_) (fun h => ?_)
        · refine X_aload_n (x := 149) dX9_part_77 rfl ?_
          refine X_get (v := .ref 150) kF_RX9_7 sh_149 rfl rfl dX9_part_78 ?_
          refine X_iconst 0 dX9_part_81 rfl ?_
          refine X_iald sh_150 dX9_part_82 h (fun h => ?_)
          refine X_aload_n (x := 149) dX9_part_83 rfl ?_
          refine X_get (v := .ref 150) kF_RX9_7 sh_149 rfl rfl dX9_part_84 ?_
          refine X_iload (x := v5) dX9_part_87 rfl ?_
          refine X_iconst 3 dX9_part_89 rfl ?_
          refine X_iadd dX9_part_90 ?_
          refine X_iald sh_150 dX9_part_91 h (fun h => ?_)
          refine X_icmp_ge 99 dX9_part_92 (by decide) h (fun h => ?_) (fun h => ?_)
          · refine X_iconst 0 dX9_part_99 rfl ?_
            exact X_retP dX9_part_100 rfl (Nat.le_refl _) (Nat.le_refl _) h
          · refine X_iconst 1 dX9_part_95 rfl ?_
            refine X_goto 100 dX9_part_96 (by decide) ?_
            exact X_retP dX9_part_100 rfl (Nat.le_refl _) (Nat.le_refl _) h
        · refine X_aload_n (x := 149) dX9_part_65 rfl ?_
          refine X_get (v := .ref 150) kF_RX9_7 sh_149 rfl rfl dX9_part_66 ?_
          refine X_iload (x := v5) dX9_part_69 rfl ?_
          refine X_iload_n (x := a3) dX9_part_71 rfl ?_
          refine X_iadd dX9_part_72 ?_
          refine X_iald sh_150 dX9_part_73 h (fun h => ?_)
          refine X_goto 100 dX9_part_74 (by decide) ?_
          exact X_retP dX9_part_100 rfl (Nat.le_refl _) (Nat.le_refl _) h
      · refine X_bipush (-2) dX9_part_43 rfl ?_
        exact X_retP dX9_part_45 rfl (Nat.le_refl _) (Nat.le_refl _) h
    · refine X_iconst (-1) dX9_part_32 rfl ?_
      exact X_retP dX9_part_33 rfl (Nat.le_refl _) (Nat.le_refl _) h
def f_X9_pass_137 (M : xM) (k62 : Int32 → Int32 → Int32 → Int32 → Int32 → Int32 → Int32 → Option Int32) (i1 : Int32) (i2 : Int32) (i3 : Int32) (i4 : Int32) (i5 : Int32) (i6 : Int32) (i7 : Int32) (s0 : Int32) (s1 : Int32) : Option Int32 :=
  xl (s0 ||| s1) fun v9 =>
  xl (i7 + 1) fun v10 =>
  k62 i1 i2 i3 i4 i5 v9 v10
set_option maxHeartbeats 1000000 in
theorem x_X9_pass_137 {ξ : xX} {M : xM} {k62 : Int32 → Int32 → Int32 → Int32 → Int32 → Int32 → Int32 → Option Int32} {i1 : Int32} {i2 : Int32} {i3 : Int32} {i4 : Int32} {i5 : Int32} {i6 : Int32} {i7 : Int32} {s0 : Int32} {s1 : Int32} (hk62 : ∀ (j1 j2 j3 j4 j5 j6 j7 : Int32) (z : Int32), k62 j1 j2 j3 j4 j5 j6 j7 = some z → X ξ mX9_pass 62 [.ref 149, .int j1, .int j2, .int j3, .int j4, .int j5, .int j6, .int j7] [] SH M 0 0 (xr (some (.int z)) SH M)) {z : Int32} (h : f_X9_pass_137 M k62 i1 i2 i3 i4 i5 i6 i7 s0 s1 = some z) : X ξ mX9_pass 137 [.ref 149, .int i1, .int i2, .int i3, .int i4, .int i5, .int i6, .int i7] [.int s1, .int s0] SH M 0 0 (xr (some (.int z)) SH M) := by
  rw [f_X9_pass_137] at h
  refine X_ior dX9_pass_137 ?_
  refine X_istoreL (fun v9 => [.ref 149, .int i1, .int i2, .int i3, .int i4, .int i5, .int v9, .int i7]) dX9_pass_138 (Nat.le_of_ble_eq_true rfl) (Nat.le_of_ble_eq_true rfl) (xcat1_of rfl) h (fun _ => rfl) (fun v9 h => ?_)
  refine X_iincL (x := i7) 1 (fun v10 => [.ref 149, .int i1, .int i2, .int i3, .int i4, .int i5, .int v9, .int v10]) dX9_pass_140 rfl rfl (Nat.le_of_ble_eq_true rfl) (xcat1_of rfl) h (fun _ => rfl) (fun v10 h => ?_)
  refine X_goto 62 dX9_pass_143 (by decide) ?_
  exact hk62 _ _ _ _ _ _ _ _ h
def f_X9_pass_136 (M : xM) (k62 : Int32 → Int32 → Int32 → Int32 → Int32 → Int32 → Int32 → Option Int32) (i1 : Int32) (i2 : Int32) (i3 : Int32) (i4 : Int32) (i5 : Int32) (i6 : Int32) (i7 : Int32) (s0 : Int32) : Option Int32 :=
  f_X9_pass_137 M k62 i1 i2 i3 i4 i5 i6 i7 s0 0
set_option maxHeartbeats 1000000 in
theorem x_X9_pass_136 {ξ : xX} {M : xM} {k62 : Int32 → Int32 → Int32 → Int32 → Int32 → Int32 → Int32 → Option Int32} {i1 : Int32} {i2 : Int32} {i3 : Int32} {i4 : Int32} {i5 : Int32} {i6 : Int32} {i7 : Int32} {s0 : Int32} (hk62 : ∀ (j1 j2 j3 j4 j5 j6 j7 : Int32) (z : Int32), k62 j1 j2 j3 j4 j5 j6 j7 = some z → X ξ mX9_pass 62 [.ref 149, .int j1, .int j2, .int j3, .int j4, .int j5, .int j6, .int j7] [] SH M 0 0 (xr (some (.int z)) SH M)) {z : Int32} (h : f_X9_pass_136 M k62 i1 i2 i3 i4 i5 i6 i7 s0 = some z) : X ξ mX9_pass 136 [.ref 149, .int i1, .int i2, .int i3, .int i4, .int i5, .int i6, .int i7] [.int s0] SH M 0 0 (xr (some (.int z)) SH M) := by
  rw [f_X9_pass_136] at h
  refine X_iconst 0 dX9_pass_136 rfl ?_
  exact x_X9_pass_137 hk62 h
def f_X9_pass_92 (M : xM) (k62 : Int32 → Int32 → Int32 → Int32 → Int32 → Int32 → Int32 → Option Int32) (i1 : Int32) (i2 : Int32) (i3 : Int32) (i4 : Int32) (i5 : Int32) (i6 : Int32) (i7 : Int32) (s0 : Int32) (s1 : Int32) : Option Int32 :=
  xl (s0 ||| s1) fun v11 =>
  xgd (xin ((i3 + 5) + i7) 916) <|
  if (M 150 ((i3 + 5) + i7).toNatClampNeg) ≤ 0 then (
    f_X9_pass_136 M k62 i1 i2 i3 i4 v11 i6 i7 i6)
  else (
    xb (f_X9_sideOf i4 i7) fun v12 =>
    xgd (xin (i3 + 3) 916) <|
    if v12 = (M 150 (i3 + 3).toNatClampNeg) then (
      f_X9_pass_136 M k62 i1 i2 i3 i4 v11 i6 i7 i6)
    else (
      f_X9_pass_137 M k62 i1 i2 i3 i4 v11 i6 i7 i6 ((1 : Int32) <<< ((i7 : Int32) &&& 31))))
set_option maxHeartbeats 1000000 in
theorem x_X9_pass_92 {ξ : xX} {M : xM} {k62 : Int32 → Int32 → Int32 → Int32 → Int32 → Int32 → Int32 → Option Int32} {i1 : Int32} {i2 : Int32} {i3 : Int32} {i4 : Int32} {i5 : Int32} {i6 : Int32} {i7 : Int32} {s0 : Int32} {s1 : Int32} (hk62 : ∀ (j1 j2 j3 j4 j5 j6 j7 : Int32) (z : Int32), k62 j1 j2 j3 j4 j5 j6 j7 = some z → X ξ mX9_pass 62 [.ref 149, .int j1, .int j2, .int j3, .int j4, .int j5, .int j6, .int j7] [] SH M 0 0 (xr (some (.int z)) SH M)) {z : Int32} (h : f_X9_pass_92 M k62 i1 i2 i3 i4 i5 i6 i7 s0 s1 = some z) : X ξ mX9_pass 92 [.ref 149, .int i1, .int i2, .int i3, .int i4, .int i5, .int i6, .int i7] [.int s1, .int s0] SH M 0 0 (xr (some (.int z)) SH M) := by
  rw [f_X9_pass_92] at h
  refine X_ior dX9_pass_92 ?_
  refine X_istoreL (fun v11 => [.ref 149, .int i1, .int i2, .int i3, .int i4, .int v11, .int i6, .int i7]) dX9_pass_93 (Nat.le_of_ble_eq_true rfl) (Nat.le_of_ble_eq_true rfl) (xcat1_of rfl) h (fun _ => rfl) (fun v11 h => ?_)
  refine X_iload (x := i6) dX9_pass_95 rfl ?_
  refine X_aload_n (x := 149) dX9_pass_97 rfl ?_
  refine X_get (v := .ref 150) kF_RX9_7 sh_149 rfl rfl dX9_pass_98 ?_
  refine X_iload_n (x := i3) dX9_pass_101 rfl ?_
  refine X_iconst 5 dX9_pass_102 rfl ?_
  refine X_iadd dX9_pass_103 ?_
  refine X_iload (x := i7) dX9_pass_104 rfl ?_
  refine X_iadd dX9_pass_106 ?_
  refine X_iald sh_150 dX9_pass_107 h (fun h => ?_)
  refine X_if_le 136 dX9_pass_108 (by decide) h (fun h => ?_) (fun h => ?_)
  · exact x_X9_pass_136 hk62 h
  · refine X_iload (x := i4) dX9_pass_111 rfl ?_
    refine X_iload (x := i7) dX9_pass_113 rfl ?_
    refine X_sP (μ' := mX9_sideOf) [.int i4, .int i7] [.int i6] kL_RX9_61 kM_X9_sideOf rfl rfl rfl dX9_pass_115 h (fun _ hv => x_X9_sideOf hv) (fun v12 h => ?_)
    refine X_aload_n (x := 149) dX9_pass_118 rfl ?_
    refine X_get (v := .ref 150) kF_RX9_7 sh_149 rfl rfl dX9_pass_119 ?_
    refine X_iload_n (x := i3) dX9_pass_122 rfl ?_
    refine X_iconst 3 dX9_pass_123 rfl ?_
    refine X_iadd dX9_pass_124 ?_
    refine X_iald sh_150 dX9_pass_125 h (fun h => ?_)
    refine X_icmp_eq 136 dX9_pass_126 (by decide) h (fun h => ?_) (fun h => ?_)
    · exact x_X9_pass_136 hk62 h
    · refine X_iconst 1 dX9_pass_129 rfl ?_
      refine X_iload (x := i7) dX9_pass_130 rfl ?_
      refine X_ishl dX9_pass_132 ?_
      refine X_goto 137 dX9_pass_133 (by decide) ?_
      exact x_X9_pass_137 hk62 h
def f_X9_pass_62 (M : xM) : Nat → Int32 → Int32 → Int32 → Int32 → Int32 → Int32 → Int32 → Option Int32
  | 0, _, _, _, _, _, _, _ => none
  | fu + 1, i1, i2, i3, i4, i5, i6, i7 =>
    if 4 ≤ i7 then (
      if 5 ≤ i2 then (
        if i2 = 5 then (
          some i5)
        else (
          some i6))
      else (
        xgd (xin (i3 + i2) 916) <|
        some (M 150 (i3 + i2).toNatClampNeg)))
    else (
      xgd (xin ((i3 + 5) + i7) 916) <|
      if (M 150 ((i3 + 5) + i7).toNatClampNeg) ≤ 0 then (
        f_X9_pass_92 M (f_X9_pass_62 M fu) i1 i2 i3 i4 i5 i6 i7 i5 0)
      else (
        f_X9_pass_92 M (f_X9_pass_62 M fu) i1 i2 i3 i4 i5 i6 i7 i5 ((1 : Int32) <<< ((i7 : Int32) &&& 31))))
set_option maxHeartbeats 1000000 in
theorem x_X9_pass_62 {ξ : xX} {M : xM} : ∀ (fu : Nat) (i1 i2 i3 i4 i5 i6 i7 : Int32) (z : Int32), f_X9_pass_62 M fu i1 i2 i3 i4 i5 i6 i7 = some z → X ξ mX9_pass 62 [.ref 149, .int i1, .int i2, .int i3, .int i4, .int i5, .int i6, .int i7] [] SH M 0 0 (xr (some (.int z)) SH M) := by
  intro fu
  induction fu with
  | zero => intro i1 i2 i3 i4 i5 i6 i7 z h; rw [f_X9_pass_62] at h; cases h
  | succ fu ih =>
    intro i1 i2 i3 i4 i5 i6 i7 z h
    rw [f_X9_pass_62] at h
    refine X_iload (x := i7) dX9_pass_62 rfl ?_
    refine X_iconst 4 dX9_pass_64 rfl ?_
    refine X_icmp_ge 146 dX9_pass_65 (by decide) h (fun h => ?_) (fun h => ?_)
    · refine X_iload_n (x := i2) dX9_pass_146 rfl ?_
      refine X_iconst 5 dX9_pass_147 rfl ?_
      refine X_icmp_ge 162 dX9_pass_148 (by decide) h (fun h => ?_) (fun h => ?_)
      · refine X_iload_n (x := i2) dX9_pass_162 rfl ?_
        refine X_iconst 5 dX9_pass_163 rfl ?_
        refine X_icmp_ne 172 dX9_pass_164 (by decide) h (fun h => ?_) (fun h => ?_)
        · refine X_iload (x := i6) dX9_pass_172 rfl ?_
          exact X_retP dX9_pass_174 rfl (Nat.le_refl _) (Nat.le_refl _) h
        · refine X_iload (x := i5) dX9_pass_167 rfl ?_
          refine X_goto 174 dX9_pass_169 (by decide) ?_
          exact X_retP dX9_pass_174 rfl (Nat.le_refl _) (Nat.le_refl _) h
      · refine X_aload_n (x := 149) dX9_pass_151 rfl ?_
        refine X_get (v := .ref 150) kF_RX9_7 sh_149 rfl rfl dX9_pass_152 ?_
        refine X_iload_n (x := i3) dX9_pass_155 rfl ?_
        refine X_iload_n (x := i2) dX9_pass_156 rfl ?_
        refine X_iadd dX9_pass_157 ?_
        refine X_iald sh_150 dX9_pass_158 h (fun h => ?_)
        refine X_goto 174 dX9_pass_159 (by decide) ?_
        exact X_retP dX9_pass_174 rfl (Nat.le_refl _) (Nat.le_refl _) h
    · refine X_iload (x := i5) dX9_pass_68 rfl ?_
      refine X_aload_n (x := 149) dX9_pass_70 rfl ?_
      refine X_get (v := .ref 150) kF_RX9_7 sh_149 rfl rfl dX9_pass_71 ?_
      refine X_iload_n (x := i3) dX9_pass_74 rfl ?_
      refine X_iconst 5 dX9_pass_75 rfl ?_
      refine X_iadd dX9_pass_76 ?_
      refine X_iload (x := i7) dX9_pass_77 rfl ?_
      refine X_iadd dX9_pass_79 ?_
      refine X_iald sh_150 dX9_pass_80 h (fun h => ?_)
      refine X_if_le 91 dX9_pass_81 (by decide) h (fun h => ?_) (fun h => ?_)
      · refine X_iconst 0 dX9_pass_91 rfl ?_
        exact x_X9_pass_92 ih h
      · refine X_iconst 1 dX9_pass_84 rfl ?_
        refine X_iload (x := i7) dX9_pass_85 rfl ?_
        refine X_ishl dX9_pass_87 ?_
        refine X_goto 92 dX9_pass_88 (by decide) ?_
        exact x_X9_pass_92 ih h
def f_X9_pass (M : xM) (a1 a2 : Int32) : Option Int32 :=
  xb (f_X9_isOne M 4 a1) fun v13 =>
  if v13 = 0 then (
    some (-1))
  else (
    xb (f_X9_in a2 0 6) fun v14 =>
    if v14 = 0 then (
      some (-2))
    else (
      xl (420 + (9 * a1)) fun v15 =>
      xgd (xin v15 916) <|
      xgd (xin ((24 + (5 * (M 150 v15.toNatClampNeg))) + 2) 916) <|
      xl (M 150 ((24 + (5 * (M 150 v15.toNatClampNeg))) + 2).toNatClampNeg) fun v16 =>
      xl (0 : Int32) fun v17 =>
      xl (0 : Int32) fun v18 =>
      xl (0 : Int32) fun v19 =>
      f_X9_pass_62 M xFU a1 a2 v15 v16 v17 v18 v19))
set_option maxHeartbeats 1000000 in
theorem x_X9_pass {ξ : xX} {M : xM} {a1 a2 : Int32} {z : Int32} (h : f_X9_pass M a1 a2 = some z) : X ξ mX9_pass 0 [.ref 149, .int a1, .int a2] [] SH M 0 0 (xr (some (.int z)) SH M) := by
  rw [f_X9_pass] at h
  refine X_aload_n (x := 149) dX9_pass_0 rfl ?_
  refine X_iconst 4 dX9_pass_1 rfl ?_
  refine X_iload_n (x := a1) dX9_pass_2 rfl ?_
  refine X_vP (μ' := mX9_isOne) [.int 4, .int a1] [] kL_RX9_64 kM_X9_isOne rv_149 rfl rfl rfl dX9_pass_3 h (fun _ hv => x_X9_isOne hv) (fun v13 h => ?_)
  refine X_if_ne 11 dX9_pass_6 (by decide) h (fun h => ?_) (fun h => ?_)
  · refine X_iload_n (x := a2) dX9_pass_11 rfl ?_
    refine X_iconst 0 dX9_pass_12 rfl ?_
    refine X_bipush 6 dX9_pass_13 rfl ?_
    refine X_sP (μ' := mX9_in) [.int a2, .int 0, .int 6] [] kL_RX9_42 kM_X9_in rfl rfl rfl dX9_pass_15 h (fun _ hv => x_X9_in hv) (fun v14 h => ?_)
    refine X_if_ne 24 dX9_pass_18 (by decide) h (fun h => ?_) (fun h => ?_)
    · refine X_sipush 420 dX9_pass_24 rfl ?_
      refine X_bipush 9 dX9_pass_27 rfl ?_
      refine X_iload_n (x := a1) dX9_pass_29 rfl ?_
      refine X_imul dX9_pass_30 ?_
      refine X_iadd dX9_pass_31 ?_
      refine X_istoreL_n (fun v15 => [.ref 149, .int a1, .int a2, .int v15]) dX9_pass_32 (Nat.le_of_ble_eq_true rfl) (Nat.le_of_ble_eq_true rfl) (xcat1_of rfl) h (fun _ => rfl) (fun v15 h => ?_)
      refine X_aload_n (x := 149) dX9_pass_33 rfl ?_
      refine X_get (v := .ref 150) kF_RX9_7 sh_149 rfl rfl dX9_pass_34 ?_
      refine X_bipush 24 dX9_pass_37 rfl ?_
      refine X_iconst 5 dX9_pass_39 rfl ?_
      refine X_aload_n (x := 149) dX9_pass_40 rfl ?_
      refine X_get (v := .ref 150) kF_RX9_7 sh_149 rfl rfl dX9_pass_41 ?_
      refine X_iload_n (x := v15) dX9_pass_44 rfl ?_
      refine X_iald sh_150 dX9_pass_45 h (fun h => ?_)
      refine X_imul dX9_pass_46 ?_
      refine X_iadd dX9_pass_47 ?_
      refine X_iconst 2 dX9_pass_48 rfl ?_
      refine X_iadd dX9_pass_49 ?_
      refine X_iald sh_150 dX9_pass_50 h (fun h => ?_)
      refine X_istoreL (fun v16 => [.ref 149, .int a1, .int a2, .int v15, .int v16]) dX9_pass_51 (Nat.le_of_ble_eq_true rfl) (Nat.le_of_ble_eq_true rfl) (xcat1_of rfl) h (fun _ => rfl) (fun v16 h => ?_)
      refine X_iconst 0 dX9_pass_53 rfl ?_
      refine X_istoreL (fun v17 => [.ref 149, .int a1, .int a2, .int v15, .int v16, .int v17]) dX9_pass_54 (Nat.le_of_ble_eq_true rfl) (Nat.le_of_ble_eq_true rfl) (xcat1_of rfl) h (fun _ => rfl) (fun v17 h => ?_)
      refine X_iconst 0 dX9_pass_56 rfl ?_
      refine X_istoreL (fun v18 => [.ref 149, .int a1, .int a2, .int v15, .int v16, .int v17, .int v18]) dX9_pass_57 (Nat.le_of_ble_eq_true rfl) (Nat.le_of_ble_eq_true rfl) (xcat1_of rfl) h (fun _ => rfl) (fun v18 h => ?_)
      refine X_iconst 0 dX9_pass_59 rfl ?_
      refine X_istoreL (fun v19 => [.ref 149, .int a1, .int a2, .int v15, .int v16, .int v17, .int v18, .int v19]) dX9_pass_60 (Nat.le_of_ble_eq_true rfl) (Nat.le_of_ble_eq_true rfl) (xcat1_of rfl) h (fun _ => rfl) (fun v19 h => ?_)
      exact x_X9_pass_62 _ _ _ _ _ _ _ _ _ h
    · refine X_bipush (-2) dX9_pass_21 rfl ?_
      exact X_retP dX9_pass_23 rfl (Nat.le_refl _) (Nat.le_refl _) h
  · refine X_iconst (-1) dX9_pass_9 rfl ?_
    exact X_retP dX9_pass_10 rfl (Nat.le_refl _) (Nat.le_refl _) h
def f_X9_captured (M : xM) (a1 a2 : Int32) : Option Int32 :=
  xb (f_X9_isOne M 4 a1) fun v1 =>
  if v1 = 0 then (
    some (-1))
  else (
    xgd (xin (420 + (9 * a1)) 916) <|
    xgd (xin ((24 + (5 * (M 150 (420 + (9 * a1)).toNatClampNeg))) + 2) 916) <|
    xb (f_X9_tracksOf (M 150 ((24 + (5 * (M 150 (420 + (9 * a1)).toNatClampNeg))) + 2).toNatClampNeg)) fun v2 =>
    xb (f_X9_in a2 0 (v2 - 1)) fun v3 =>
    if v3 = 0 then (
      some (-1))
    else (
      xgd (xin (((420 + (9 * a1)) + 5) + a2) 916) <|
      some (M 150 (((420 + (9 * a1)) + 5) + a2).toNatClampNeg)))
set_option maxHeartbeats 1000000 in
theorem x_X9_captured {ξ : xX} {M : xM} {a1 a2 : Int32} {z : Int32} (h : f_X9_captured M a1 a2 = some z) : X ξ mX9_captured 0 [.ref 149, .int a1, .int a2] [] SH M 0 0 (xr (some (.int z)) SH M) := by
  rw [f_X9_captured] at h
  refine X_aload_n (x := 149) dX9_captured_0 rfl ?_
  refine X_iconst 4 dX9_captured_1 rfl ?_
  refine X_iload_n (x := a1) dX9_captured_2 rfl ?_
  refine X_vP (μ' := mX9_isOne) [.int 4, .int a1] [] kL_RX9_64 kM_X9_isOne rv_149 rfl rfl rfl dX9_captured_3 h (fun _ hv => x_X9_isOne hv) (fun v1 h => ?_)
  refine X_if_eq 47 dX9_captured_6 (by decide) h (fun h => ?_) (fun h => ?_)
  · refine X_iconst (-1) dX9_captured_47 rfl ?_
    exact X_retP dX9_captured_48 rfl (Nat.le_refl _) (Nat.le_refl _) h
  · refine X_iload_n (x := a2) dX9_captured_9 rfl ?_
    refine X_iconst 0 dX9_captured_10 rfl ?_
    refine X_aload_n (x := 149) dX9_captured_11 rfl ?_
    refine X_get (v := .ref 150) kF_RX9_7 sh_149 rfl rfl dX9_captured_12 ?_
    refine X_bipush 24 dX9_captured_15 rfl ?_
    refine X_iconst 5 dX9_captured_17 rfl ?_
    refine X_aload_n (x := 149) dX9_captured_18 rfl ?_
    refine X_get (v := .ref 150) kF_RX9_7 sh_149 rfl rfl dX9_captured_19 ?_
    refine X_sipush 420 dX9_captured_22 rfl ?_
    refine X_bipush 9 dX9_captured_25 rfl ?_
    refine X_iload_n (x := a1) dX9_captured_27 rfl ?_
    refine X_imul dX9_captured_28 ?_
    refine X_iadd dX9_captured_29 ?_
    refine X_iald sh_150 dX9_captured_30 h (fun h => ?_)
    refine X_imul dX9_captured_31 ?_
    refine X_iadd dX9_captured_32 ?_
    refine X_iconst 2 dX9_captured_33 rfl ?_
    refine X_iadd dX9_captured_34 ?_
    refine X_iald sh_150 dX9_captured_35 h (fun h => ?_)
    refine X_sP (μ' := mX9_tracksOf) [.int (M 150 ((24 + (5 * (M 150 (420 + (9 * a1)).toNatClampNeg))) + 2).toNatClampNeg)] [.int 0, .int a2] kL_RX9_57 kM_X9_tracksOf rfl rfl rfl dX9_captured_36 h (fun _ hv => x_X9_tracksOf hv) (fun v2 h => ?_)
    refine X_iconst 1 dX9_captured_39 rfl ?_
    refine X_isub dX9_captured_40 ?_
    refine X_sP (μ' := mX9_in) [.int a2, .int 0, .int (v2 - 1)] [] kL_RX9_42 kM_X9_in rfl rfl rfl dX9_captured_41 h (fun _ hv => x_X9_in hv) (fun v3 h => ?_)
    refine X_if_ne 49 dX9_captured_44 (by decide) h (fun h => ?_) (fun h => ?_)
    · refine X_aload_n (x := 149) dX9_captured_49 rfl ?_
      refine X_get (v := .ref 150) kF_RX9_7 sh_149 rfl rfl dX9_captured_50 ?_
      refine X_sipush 420 dX9_captured_53 rfl ?_
      refine X_bipush 9 dX9_captured_56 rfl ?_
      refine X_iload_n (x := a1) dX9_captured_58 rfl ?_
      refine X_imul dX9_captured_59 ?_
      refine X_iadd dX9_captured_60 ?_
      refine X_iconst 5 dX9_captured_61 rfl ?_
      refine X_iadd dX9_captured_62 ?_
      refine X_iload_n (x := a2) dX9_captured_63 rfl ?_
      refine X_iadd dX9_captured_64 ?_
      refine X_iald sh_150 dX9_captured_65 h (fun h => ?_)
      exact X_retP dX9_captured_66 rfl (Nat.le_refl _) (Nat.le_refl _) h
    · refine X_iconst (-1) dX9_captured_47 rfl ?_
      exact X_retP dX9_captured_48 rfl (Nat.le_refl _) (Nat.le_refl _) h
def f_X9_quality (M : xM) (a1 a2 : Int32) : Option Int32 :=
  xb (f_X9_isOne M 4 a1) fun v1 =>
  if v1 = 0 then (
    some (-1))
  else (
    xb (f_X9_isOne M 3 a2) fun v2 =>
    if v2 = 0 then (
      some (-1))
    else (
      xb (f_X9_qualityIn M a1 a2) fun v3 =>
      some v3))
set_option maxHeartbeats 1000000 in
theorem x_X9_quality {ξ : xX} {M : xM} {a1 a2 : Int32} {z : Int32} (h : f_X9_quality M a1 a2 = some z) : X ξ mX9_quality 0 [.ref 149, .int a1, .int a2] [] SH M 0 0 (xr (some (.int z)) SH M) := by
  rw [f_X9_quality] at h
  refine X_aload_n (x := 149) dX9_quality_0 rfl ?_
  refine X_iconst 4 dX9_quality_1 rfl ?_
  refine X_iload_n (x := a1) dX9_quality_2 rfl ?_
  refine X_vP (μ' := mX9_isOne) [.int 4, .int a1] [] kL_RX9_64 kM_X9_isOne rv_149 rfl rfl rfl dX9_quality_3 h (fun _ hv => x_X9_isOne hv) (fun v1 h => ?_)
  refine X_if_eq 27 dX9_quality_6 (by decide) h (fun h => ?_) (fun h => ?_)
  · refine X_iconst (-1) dX9_quality_27 rfl ?_
    exact X_retP dX9_quality_28 rfl (Nat.le_refl _) (Nat.le_refl _) h
  · refine X_aload_n (x := 149) dX9_quality_9 rfl ?_
    refine X_iconst 3 dX9_quality_10 rfl ?_
    refine X_iload_n (x := a2) dX9_quality_11 rfl ?_
    refine X_vP (μ' := mX9_isOne) [.int 3, .int a2] [] kL_RX9_64 kM_X9_isOne rv_149 rfl rfl rfl dX9_quality_12 h (fun _ hv => x_X9_isOne hv) (fun v2 h => ?_)
    refine X_if_eq 27 dX9_quality_15 (by decide) h (fun h => ?_) (fun h => ?_)
    · refine X_iconst (-1) dX9_quality_27 rfl ?_
      exact X_retP dX9_quality_28 rfl (Nat.le_refl _) (Nat.le_refl _) h
    · refine X_aload_n (x := 149) dX9_quality_18 rfl ?_
      refine X_iload_n (x := a1) dX9_quality_19 rfl ?_
      refine X_iload_n (x := a2) dX9_quality_20 rfl ?_
      refine X_vP (μ' := mX9_qualityIn) [.int a1, .int a2] [] kL_RX9_120 kM_X9_qualityIn rv_149 rfl rfl rfl dX9_quality_21 h (fun _ hv => x_X9_qualityIn hv) (fun v3 h => ?_)
      refine X_goto 28 dX9_quality_24 (by decide) ?_
      exact X_retP dX9_quality_28 rfl (Nat.le_refl _) (Nat.le_refl _) h
def f_X9_bestPass (M : xM) (a1 : Int32) : Option Int32 :=
  xb (f_X9_isOne M 3 a1) fun v2 =>
  if v2 = 0 then (
    some (-1))
  else (
    xb (f_X9_bestFor M a1) fun v3 =>
    xl v3 fun v4 =>
    if 0 ≤ v4 then (
      some v4)
    else (
      some (-6)))
set_option maxHeartbeats 1000000 in
theorem x_X9_bestPass {ξ : xX} {M : xM} {a1 : Int32} {z : Int32} (h : f_X9_bestPass M a1 = some z) : X ξ mX9_bestPass 0 [.ref 149, .int a1] [] SH M 0 0 (xr (some (.int z)) SH M) := by
  rw [f_X9_bestPass] at h
  refine X_aload_n (x := 149) dX9_bestPass_0 rfl ?_
  refine X_iconst 3 dX9_bestPass_1 rfl ?_
  refine X_iload_n (x := a1) dX9_bestPass_2 rfl ?_
  refine X_vP (μ' := mX9_isOne) [.int 3, .int a1] [] kL_RX9_64 kM_X9_isOne rv_149 rfl rfl rfl dX9_bestPass_3 h (fun _ hv => x_X9_isOne hv) (fun v2 h => ?_)
  refine X_if_ne 11 dX9_bestPass_6 (by decide) h (fun h => ?_) (fun h => ?_)
  · refine X_aload_n (x := 149) dX9_bestPass_11 rfl ?_
    refine X_iload_n (x := a1) dX9_bestPass_12 rfl ?_
    refine X_vP (μ' := mX9_bestFor) [.int a1] [] kL_RX9_142 kM_X9_bestFor rv_149 rfl rfl rfl dX9_bestPass_13 h (fun _ hv => x_X9_bestFor hv) (fun v3 h => ?_)
    refine X_istoreL_n (fun v4 => [.ref 149, .int a1, .int v4]) dX9_bestPass_16 (Nat.le_of_ble_eq_true rfl) (Nat.le_of_ble_eq_true rfl) (xcat1_of rfl) h (fun _ => rfl) (fun v4 h => ?_)
    refine X_iload_n (x := v4) dX9_bestPass_17 rfl ?_
    refine X_if_ge 26 dX9_bestPass_18 (by decide) h (fun h => ?_) (fun h => ?_)
    · refine X_iload_n (x := v4) dX9_bestPass_26 rfl ?_
      exact X_retP dX9_bestPass_27 rfl (Nat.le_refl _) (Nat.le_refl _) h
    · refine X_bipush (-6) dX9_bestPass_21 rfl ?_
      refine X_goto 27 dX9_bestPass_23 (by decide) ?_
      exact X_retP dX9_bestPass_27 rfl (Nat.le_refl _) (Nat.le_refl _) h
  · refine X_iconst (-1) dX9_bestPass_9 rfl ?_
    exact X_retP dX9_bestPass_10 rfl (Nat.le_refl _) (Nat.le_refl _) h
def f_X9_permission (M : xM) (a1 a2 : Int32) : Option Int32 :=
  xb (f_X9_isOne M 5 a1) fun v1 =>
  if v1 = 0 then (
    some (-1))
  else (
    xb (f_X9_in a2 0 4) fun v2 =>
    if v2 = 0 then (
      some (-2))
    else (
      xgd (xin ((636 + (5 * a1)) + a2) 916) <|
      some (M 150 ((636 + (5 * a1)) + a2).toNatClampNeg)))
set_option maxHeartbeats 1000000 in
theorem x_X9_permission {ξ : xX} {M : xM} {a1 a2 : Int32} {z : Int32} (h : f_X9_permission M a1 a2 = some z) : X ξ mX9_permission 0 [.ref 149, .int a1, .int a2] [] SH M 0 0 (xr (some (.int z)) SH M) := by
  rw [f_X9_permission] at h
  refine X_aload_n (x := 149) dX9_permission_0 rfl ?_
  refine X_iconst 5 dX9_permission_1 rfl ?_
  refine X_iload_n (x := a1) dX9_permission_2 rfl ?_
  refine X_vP (μ' := mX9_isOne) [.int 5, .int a1] [] kL_RX9_64 kM_X9_isOne rv_149 rfl rfl rfl dX9_permission_3 h (fun _ hv => x_X9_isOne hv) (fun v1 h => ?_)
  refine X_if_ne 11 dX9_permission_6 (by decide) h (fun h => ?_) (fun h => ?_)
  · refine X_iload_n (x := a2) dX9_permission_11 rfl ?_
    refine X_iconst 0 dX9_permission_12 rfl ?_
    refine X_iconst 4 dX9_permission_13 rfl ?_
    refine X_sP (μ' := mX9_in) [.int a2, .int 0, .int 4] [] kL_RX9_42 kM_X9_in rfl rfl rfl dX9_permission_14 h (fun _ hv => x_X9_in hv) (fun v2 h => ?_)
    refine X_if_eq 37 dX9_permission_17 (by decide) h (fun h => ?_) (fun h => ?_)
    · refine X_bipush (-2) dX9_permission_37 rfl ?_
      exact X_retP dX9_permission_39 rfl (Nat.le_refl _) (Nat.le_refl _) h
    · refine X_aload_n (x := 149) dX9_permission_20 rfl ?_
      refine X_get (v := .ref 150) kF_RX9_7 sh_149 rfl rfl dX9_permission_21 ?_
      refine X_sipush 636 dX9_permission_24 rfl ?_
      refine X_iconst 5 dX9_permission_27 rfl ?_
      refine X_iload_n (x := a1) dX9_permission_28 rfl ?_
      refine X_imul dX9_permission_29 ?_
      refine X_iadd dX9_permission_30 ?_
      refine X_iload_n (x := a2) dX9_permission_31 rfl ?_
      refine X_iadd dX9_permission_32 ?_
      refine X_iald sh_150 dX9_permission_33 h (fun h => ?_)
      refine X_goto 39 dX9_permission_34 (by decide) ?_
      exact X_retP dX9_permission_39 rfl (Nat.le_refl _) (Nat.le_refl _) h
  · refine X_iconst (-1) dX9_permission_9 rfl ?_
    exact X_retP dX9_permission_10 rfl (Nat.le_refl _) (Nat.le_refl _) h
def f_X9_requested (M : xM) (a1 a2 : Int32) : Option Int32 :=
  xb (f_X9_isOne M 6 a1) fun v1 =>
  if v1 = 0 then (
    some (-1))
  else (
    xb (f_X9_in a2 0 9) fun v2 =>
    if v2 = 0 then (
      some (-2))
    else (
      xgd (xin ((756 + (10 * a1)) + a2) 916) <|
      some (M 150 ((756 + (10 * a1)) + a2).toNatClampNeg)))
set_option maxHeartbeats 1000000 in
theorem x_X9_requested {ξ : xX} {M : xM} {a1 a2 : Int32} {z : Int32} (h : f_X9_requested M a1 a2 = some z) : X ξ mX9_requested 0 [.ref 149, .int a1, .int a2] [] SH M 0 0 (xr (some (.int z)) SH M) := by
  rw [f_X9_requested] at h
  refine X_aload_n (x := 149) dX9_requested_0 rfl ?_
  refine X_bipush 6 dX9_requested_1 rfl ?_
  refine X_iload_n (x := a1) dX9_requested_3 rfl ?_
  refine X_vP (μ' := mX9_isOne) [.int 6, .int a1] [] kL_RX9_64 kM_X9_isOne rv_149 rfl rfl rfl dX9_requested_4 h (fun _ hv => x_X9_isOne hv) (fun v1 h => ?_)
  refine X_if_ne 12 dX9_requested_7 (by decide) h (fun h => ?_) (fun h => ?_)
  · refine X_iload_n (x := a2) dX9_requested_12 rfl ?_
    refine X_iconst 0 dX9_requested_13 rfl ?_
    refine X_bipush 9 dX9_requested_14 rfl ?_
    refine X_sP (μ' := mX9_in) [.int a2, .int 0, .int 9] [] kL_RX9_42 kM_X9_in rfl rfl rfl dX9_requested_16 h (fun _ hv => x_X9_in hv) (fun v2 h => ?_)
    refine X_if_eq 40 dX9_requested_19 (by decide) h (fun h => ?_) (fun h => ?_)
    · refine X_bipush (-2) dX9_requested_40 rfl ?_
      exact X_retP dX9_requested_42 rfl (Nat.le_refl _) (Nat.le_refl _) h
    · refine X_aload_n (x := 149) dX9_requested_22 rfl ?_
      refine X_get (v := .ref 150) kF_RX9_7 sh_149 rfl rfl dX9_requested_23 ?_
      refine X_sipush 756 dX9_requested_26 rfl ?_
      refine X_bipush 10 dX9_requested_29 rfl ?_
      refine X_iload_n (x := a1) dX9_requested_31 rfl ?_
      refine X_imul dX9_requested_32 ?_
      refine X_iadd dX9_requested_33 ?_
      refine X_iload_n (x := a2) dX9_requested_34 rfl ?_
      refine X_iadd dX9_requested_35 ?_
      refine X_iald sh_150 dX9_requested_36 h (fun h => ?_)
      refine X_goto 42 dX9_requested_37 (by decide) ?_
      exact X_retP dX9_requested_42 rfl (Nat.le_refl _) (Nat.le_refl _) h
  · refine X_iconst (-1) dX9_requested_10 rfl ?_
    exact X_retP dX9_requested_11 rfl (Nat.le_refl _) (Nat.le_refl _) h
def f_X9_errorOfExcerpt (M : xM) (a1 a2 a3 a4 a5 : Int32) : Option Int32 :=
  xb (f_X9_isOne M 3 a2) fun v1 =>
  if v1 = 0 then (
    some (-1))
  else (
    xb (f_X9_in a1 0 7) fun v2 =>
    if v2 = 0 then (
      some (-2))
    else (
      xb (f_X9_isExcerpt M a2 a3 a4) fun v3 =>
      if v3 = 0 then (
        some (-2))
      else (
        xb (f_X9_in a5 0 2) fun v4 =>
        if v4 = 0 then (
          some (-2))
        else (
          some 0))))
set_option maxHeartbeats 1000000 in
theorem x_X9_errorOfExcerpt {ξ : xX} {M : xM} {a1 a2 a3 a4 a5 : Int32} {z : Int32} (h : f_X9_errorOfExcerpt M a1 a2 a3 a4 a5 = some z) : X ξ mX9_errorOfExcerpt 0 [.ref 149, .int a1, .int a2, .int a3, .int a4, .int a5] [] SH M 0 0 (xr (some (.int z)) SH M) := by
  rw [f_X9_errorOfExcerpt] at h
  refine X_aload_n (x := 149) dX9_errorOfExcerpt_0 rfl ?_
  refine X_iconst 3 dX9_errorOfExcerpt_1 rfl ?_
  refine X_iload_n (x := a2) dX9_errorOfExcerpt_2 rfl ?_
  refine X_vP (μ' := mX9_isOne) [.int 3, .int a2] [] kL_RX9_64 kM_X9_isOne rv_149 rfl rfl rfl dX9_errorOfExcerpt_3 h (fun _ hv => x_X9_isOne hv) (fun v1 h => ?_)
  refine X_if_ne 11 dX9_errorOfExcerpt_6 (by decide) h (fun h => ?_) (fun h => ?_)
  · refine X_iload_n (x := a1) dX9_errorOfExcerpt_11 rfl ?_
    refine X_iconst 0 dX9_errorOfExcerpt_12 rfl ?_
    refine X_bipush 7 dX9_errorOfExcerpt_13 rfl ?_
    refine X_sP (μ' := mX9_in) [.int a1, .int 0, .int 7] [] kL_RX9_42 kM_X9_in rfl rfl rfl dX9_errorOfExcerpt_15 h (fun _ hv => x_X9_in hv) (fun v2 h => ?_)
    refine X_if_eq 46 dX9_errorOfExcerpt_18 (by decide) h (fun h => ?_) (fun h => ?_)
    · refine X_bipush (-2) dX9_errorOfExcerpt_46 rfl ?_
      exact X_retP dX9_errorOfExcerpt_48 rfl (Nat.le_refl _) (Nat.le_refl _) h
    · refine X_aload_n (x := 149) dX9_errorOfExcerpt_21 rfl ?_
      refine X_iload_n (x := a2) dX9_errorOfExcerpt_22 rfl ?_
      refine X_iload_n (x := a3) dX9_errorOfExcerpt_23 rfl ?_
      refine X_iload (x := a4) dX9_errorOfExcerpt_24 rfl ?_
      refine X_vP (μ' := mX9_isExcerpt) [.int a2, .int a3, .int a4] [] kL_RX9_70 kM_X9_isExcerpt rv_149 rfl rfl rfl dX9_errorOfExcerpt_26 h (fun _ hv => x_X9_isExcerpt hv) (fun v3 h => ?_)
      refine X_if_eq 46 dX9_errorOfExcerpt_29 (by decide) h (fun h => ?_) (fun h => ?_)
      · refine X_bipush (-2) dX9_errorOfExcerpt_46 rfl ?_
        exact X_retP dX9_errorOfExcerpt_48 rfl (Nat.le_refl _) (Nat.le_refl _) h
      · refine X_iload (x := a5) dX9_errorOfExcerpt_32 rfl ?_
        refine X_iconst 0 dX9_errorOfExcerpt_34 rfl ?_
        refine X_iconst 2 dX9_errorOfExcerpt_35 rfl ?_
        refine X_sP (μ' := mX9_in) [.int a5, .int 0, .int 2] [] kL_RX9_42 kM_X9_in rfl rfl rfl dX9_errorOfExcerpt_36 h (fun _ hv => x_X9_in hv) (fun v4 h => ?_)
        refine X_if_eq 46 dX9_errorOfExcerpt_39 (by decide) h (fun h => ?_) (fun h => ?_)
        · refine X_bipush (-2) dX9_errorOfExcerpt_46 rfl ?_
          exact X_retP dX9_errorOfExcerpt_48 rfl (Nat.le_refl _) (Nat.le_refl _) h
        · refine X_iconst 0 dX9_errorOfExcerpt_42 rfl ?_
          refine X_goto 48 dX9_errorOfExcerpt_43 (by decide) ?_
          exact X_retP dX9_errorOfExcerpt_48 rfl (Nat.le_refl _) (Nat.le_refl _) h
  · refine X_iconst (-1) dX9_errorOfExcerpt_9 rfl ?_
    exact X_retP dX9_errorOfExcerpt_10 rfl (Nat.le_refl _) (Nat.le_refl _) h
def f_X9_lacking (M : xM) (a1 a2 a3 a4 a5 : Int32) : Option Int32 :=
  xb (f_X9_errorOfExcerpt M a1 a2 a3 a4 a5) fun v2 =>
  xl v2 fun v3 =>
  if 0 ≤ v3 then (
    xb (f_X9_lacks M a1 a2 a3 a4 a5) fun v4 =>
    some v4)
  else (
    some v3)
set_option maxHeartbeats 1000000 in
theorem x_X9_lacking {ξ : xX} {M : xM} {a1 a2 a3 a4 a5 : Int32} {z : Int32} (h : f_X9_lacking M a1 a2 a3 a4 a5 = some z) : X ξ mX9_lacking 0 [.ref 149, .int a1, .int a2, .int a3, .int a4, .int a5] [] SH M 0 0 (xr (some (.int z)) SH M) := by
  rw [f_X9_lacking] at h
  refine X_aload_n (x := 149) dX9_lacking_0 rfl ?_
  refine X_iload_n (x := a1) dX9_lacking_1 rfl ?_
  refine X_iload_n (x := a2) dX9_lacking_2 rfl ?_
  refine X_iload_n (x := a3) dX9_lacking_3 rfl ?_
  refine X_iload (x := a4) dX9_lacking_4 rfl ?_
  refine X_iload (x := a5) dX9_lacking_6 rfl ?_
  refine X_vP (μ' := mX9_errorOfExcerpt) [.int a1, .int a2, .int a3, .int a4, .int a5] [] kL_RX9_181 kM_X9_errorOfExcerpt rv_149 rfl rfl rfl dX9_lacking_8 h (fun _ hv => x_X9_errorOfExcerpt hv) (fun v2 h => ?_)
  refine X_istoreL (fun v3 => [.ref 149, .int a1, .int a2, .int a3, .int a4, .int a5, .int v3]) dX9_lacking_11 (Nat.le_of_ble_eq_true rfl) (Nat.le_of_ble_eq_true rfl) (xcat1_of rfl) h (fun _ => rfl) (fun v3 h => ?_)
  refine X_iload (x := v3) dX9_lacking_13 rfl ?_
  refine X_if_ge 23 dX9_lacking_15 (by decide) h (fun h => ?_) (fun h => ?_)
  · refine X_aload_n (x := 149) dX9_lacking_23 rfl ?_
    refine X_iload_n (x := a1) dX9_lacking_24 rfl ?_
    refine X_iload_n (x := a2) dX9_lacking_25 rfl ?_
    refine X_iload_n (x := a3) dX9_lacking_26 rfl ?_
    refine X_iload (x := a4) dX9_lacking_27 rfl ?_
    refine X_iload (x := a5) dX9_lacking_29 rfl ?_
    refine X_vP (μ' := mX9_lacks) [.int a1, .int a2, .int a3, .int a4, .int a5] [] kL_RX9_139 kM_X9_lacks rv_149 rfl rfl rfl dX9_lacking_31 h (fun _ hv => x_X9_lacks hv) (fun v4 h => ?_)
    exact X_retP dX9_lacking_34 rfl (Nat.le_refl _) (Nat.le_refl _) h
  · refine X_iload (x := v3) dX9_lacking_18 rfl ?_
    refine X_goto 34 dX9_lacking_20 (by decide) ?_
    exact X_retP dX9_lacking_34 rfl (Nat.le_refl _) (Nat.le_refl _) h
def f_X9_fee (M : xM) (a1 a2 a3 a4 a5 : Int32) : Option Int32 :=
  xb (f_X9_errorOfExcerpt M a1 a2 a3 a4 a5) fun v2 =>
  xl v2 fun v3 =>
  if 0 ≤ v3 then (
    xb (f_X9_feeFor M a1 a2 a3 a4 a5) fun v4 =>
    some v4)
  else (
    some v3)
set_option maxHeartbeats 1000000 in
theorem x_X9_fee {ξ : xX} {M : xM} {a1 a2 a3 a4 a5 : Int32} {z : Int32} (h : f_X9_fee M a1 a2 a3 a4 a5 = some z) : X ξ mX9_fee 0 [.ref 149, .int a1, .int a2, .int a3, .int a4, .int a5] [] SH M 0 0 (xr (some (.int z)) SH M) := by
  rw [f_X9_fee] at h
  refine X_aload_n (x := 149) dX9_fee_0 rfl ?_
  refine X_iload_n (x := a1) dX9_fee_1 rfl ?_
  refine X_iload_n (x := a2) dX9_fee_2 rfl ?_
  refine X_iload_n (x := a3) dX9_fee_3 rfl ?_
  refine X_iload (x := a4) dX9_fee_4 rfl ?_
  refine X_iload (x := a5) dX9_fee_6 rfl ?_
  refine X_vP (μ' := mX9_errorOfExcerpt) [.int a1, .int a2, .int a3, .int a4, .int a5] [] kL_RX9_181 kM_X9_errorOfExcerpt rv_149 rfl rfl rfl dX9_fee_8 h (fun _ hv => x_X9_errorOfExcerpt hv) (fun v2 h => ?_)
  refine X_istoreL (fun v3 => [.ref 149, .int a1, .int a2, .int a3, .int a4, .int a5, .int v3]) dX9_fee_11 (Nat.le_of_ble_eq_true rfl) (Nat.le_of_ble_eq_true rfl) (xcat1_of rfl) h (fun _ => rfl) (fun v3 h => ?_)
  refine X_iload (x := v3) dX9_fee_13 rfl ?_
  refine X_if_ge 23 dX9_fee_15 (by decide) h (fun h => ?_) (fun h => ?_)
  · refine X_aload_n (x := 149) dX9_fee_23 rfl ?_
    refine X_iload_n (x := a1) dX9_fee_24 rfl ?_
    refine X_iload_n (x := a2) dX9_fee_25 rfl ?_
    refine X_iload_n (x := a3) dX9_fee_26 rfl ?_
    refine X_iload (x := a4) dX9_fee_27 rfl ?_
    refine X_iload (x := a5) dX9_fee_29 rfl ?_
    refine X_vP (μ' := mX9_feeFor) [.int a1, .int a2, .int a3, .int a4, .int a5] [] kL_RX9_184 kM_X9_feeFor rv_149 rfl rfl rfl dX9_fee_31 h (fun _ hv => x_X9_feeFor hv) (fun v4 h => ?_)
    exact X_retP dX9_fee_34 rfl (Nat.le_refl _) (Nat.le_refl _) h
  · refine X_iload (x := v3) dX9_fee_18 rfl ?_
    refine X_goto 34 dX9_fee_20 (by decide) ?_
    exact X_retP dX9_fee_34 rfl (Nat.le_refl _) (Nat.le_refl _) h
def f_X9_income (M : xM) (a1 : Int32) : Option Int32 :=
  xb (f_X9_in a1 0 7) fun v1 =>
  if v1 = 0 then (
    some (-2))
  else (
    xgd (xin (8 + a1) 916) <|
    some (M 150 (8 + a1).toNatClampNeg))
set_option maxHeartbeats 1000000 in
theorem x_X9_income {ξ : xX} {M : xM} {a1 : Int32} {z : Int32} (h : f_X9_income M a1 = some z) : X ξ mX9_income 0 [.ref 149, .int a1] [] SH M 0 0 (xr (some (.int z)) SH M) := by
  rw [f_X9_income] at h
  refine X_iload_n (x := a1) dX9_income_0 rfl ?_
  refine X_iconst 0 dX9_income_1 rfl ?_
  refine X_bipush 7 dX9_income_2 rfl ?_
  refine X_sP (μ' := mX9_in) [.int a1, .int 0, .int 7] [] kL_RX9_42 kM_X9_in rfl rfl rfl dX9_income_4 h (fun _ hv => x_X9_in hv) (fun v1 h => ?_)
  refine X_if_eq 22 dX9_income_7 (by decide) h (fun h => ?_) (fun h => ?_)
  · refine X_bipush (-2) dX9_income_22 rfl ?_
    exact X_retP dX9_income_24 rfl (Nat.le_refl _) (Nat.le_refl _) h
  · refine X_aload_n (x := 149) dX9_income_10 rfl ?_
    refine X_get (v := .ref 150) kF_RX9_7 sh_149 rfl rfl dX9_income_11 ?_
    refine X_bipush 8 dX9_income_14 rfl ?_
    refine X_iload_n (x := a1) dX9_income_16 rfl ?_
    refine X_iadd dX9_income_17 ?_
    refine X_iald sh_150 dX9_income_18 h (fun h => ?_)
    refine X_goto 24 dX9_income_19 (by decide) ?_
    exact X_retP dX9_income_24 rfl (Nat.le_refl _) (Nat.le_refl _) h
def f_X9_paid (M : xM) (a1 : Int32) : Option Int32 :=
  xb (f_X9_in a1 0 7) fun v1 =>
  if v1 = 0 then (
    some (-2))
  else (
    xgd (xin (16 + a1) 916) <|
    some (M 150 (16 + a1).toNatClampNeg))
set_option maxHeartbeats 1000000 in
theorem x_X9_paid {ξ : xX} {M : xM} {a1 : Int32} {z : Int32} (h : f_X9_paid M a1 = some z) : X ξ mX9_paid 0 [.ref 149, .int a1] [] SH M 0 0 (xr (some (.int z)) SH M) := by
  rw [f_X9_paid] at h
  refine X_iload_n (x := a1) dX9_paid_0 rfl ?_
  refine X_iconst 0 dX9_paid_1 rfl ?_
  refine X_bipush 7 dX9_paid_2 rfl ?_
  refine X_sP (μ' := mX9_in) [.int a1, .int 0, .int 7] [] kL_RX9_42 kM_X9_in rfl rfl rfl dX9_paid_4 h (fun _ hv => x_X9_in hv) (fun v1 h => ?_)
  refine X_if_eq 22 dX9_paid_7 (by decide) h (fun h => ?_) (fun h => ?_)
  · refine X_bipush (-2) dX9_paid_22 rfl ?_
    exact X_retP dX9_paid_24 rfl (Nat.le_refl _) (Nat.le_refl _) h
  · refine X_aload_n (x := 149) dX9_paid_10 rfl ?_
    refine X_get (v := .ref 150) kF_RX9_7 sh_149 rfl rfl dX9_paid_11 ?_
    refine X_bipush 16 dX9_paid_14 rfl ?_
    refine X_iload_n (x := a1) dX9_paid_16 rfl ?_
    refine X_iadd dX9_paid_17 ?_
    refine X_iald sh_150 dX9_paid_18 h (fun h => ?_)
    refine X_goto 24 dX9_paid_19 (by decide) ?_
    exact X_retP dX9_paid_24 rfl (Nat.le_refl _) (Nat.le_refl _) h
def f_X9_isAhead (M : xM) (a1 a2 : Int32) : Option Int32 :=
  xl (756 + (10 * a1)) fun v3 =>
  xl (756 + (10 * a2)) fun v4 =>
  xgd (xin (v3 + 7) 916) <|
  xgd (xin (v4 + 7) 916) <|
  if (M 150 (v3 + 7).toNatClampNeg) = (M 150 (v4 + 7).toNatClampNeg) then (
    xgd (xin (v3 + 5) 916) <|
    xgd (xin (v4 + 5) 916) <|
    if (M 150 (v3 + 5).toNatClampNeg) = (M 150 (v4 + 5).toNatClampNeg) then (
      xgd (xin (v3 + 6) 916) <|
      xgd (xin (v4 + 6) 916) <|
      if (M 150 (v3 + 6).toNatClampNeg) = (M 150 (v4 + 6).toNatClampNeg) then (
        if a2 ≤ a1 then (
          some 0)
        else (
          some 1))
      else (
        xgd (xin (v3 + 6) 916) <|
        xgd (xin (v4 + 6) 916) <|
        if (M 150 (v3 + 6).toNatClampNeg) ≤ (M 150 (v4 + 6).toNatClampNeg) then (
          some 0)
        else (
          some 1)))
    else (
      xgd (xin (v3 + 5) 916) <|
      xgd (xin (v4 + 5) 916) <|
      if (M 150 (v3 + 5).toNatClampNeg) ≤ (M 150 (v4 + 5).toNatClampNeg) then (
        some 0)
      else (
        some 1)))
  else (
    xgd (xin (v3 + 7) 916) <|
    xgd (xin (v4 + 7) 916) <|
    if (M 150 (v4 + 7).toNatClampNeg) ≤ (M 150 (v3 + 7).toNatClampNeg) then (
      some 0)
    else (
      some 1))
set_option maxHeartbeats 1000000 in
theorem x_X9_isAhead {ξ : xX} {M : xM} {a1 a2 : Int32} {z : Int32} (h : f_X9_isAhead M a1 a2 = some z) : X ξ mX9_isAhead 0 [.ref 149, .int a1, .int a2] [] SH M 0 0 (xr (some (.int z)) SH M) := by
  rw [f_X9_isAhead] at h
  refine X_sipush 756 dX9_isAhead_0 rfl ?_
  refine X_bipush 10 dX9_isAhead_3 rfl ?_
  refine X_iload_n (x := a1) dX9_isAhead_5 rfl ?_
  refine X_imul dX9_isAhead_6 ?_
  refine X_iadd dX9_isAhead_7 ?_
  refine X_istoreL_n (fun v3 => [.ref 149, .int a1, .int a2, .int v3]) dX9_isAhead_8 (Nat.le_of_ble_eq_true rfl) (Nat.le_of_ble_eq_true rfl) (xcat1_of rfl) h (fun _ => rfl) (fun v3 h => ?_)
  refine X_sipush 756 dX9_isAhead_9 rfl ?_
  refine X_bipush 10 dX9_isAhead_12 rfl ?_
  refine X_iload_n (x := a2) dX9_isAhead_14 rfl ?_
  refine X_imul dX9_isAhead_15 ?_
  refine X_iadd dX9_isAhead_16 ?_
  refine X_istoreL (fun v4 => [.ref 149, .int a1, .int a2, .int v3, .int v4]) dX9_isAhead_17 (Nat.le_of_ble_eq_true rfl) (Nat.le_of_ble_eq_true rfl) (xcat1_of rfl) h (fun _ => rfl) (fun v4 h => ?_)
  refine X_aload_n (x := 149) dX9_isAhead_19 rfl ?_
  refine X_get (v := .ref 150) kF_RX9_7 sh_149 rfl rfl dX9_isAhead_20 ?_
  refine X_iload_n (x := v3) dX9_isAhead_23 rfl ?_
  refine X_bipush 7 dX9_isAhead_24 rfl ?_
  refine X_iadd dX9_isAhead_26 ?_
  refine X_iald sh_150 dX9_isAhead_27 h (fun h => ?_)
  refine X_aload_n (x := 149) dX9_isAhead_28 rfl ?_
  refine X_get (v := .ref 150) kF_RX9_7 sh_149 rfl rfl dX9_isAhead_29 ?_
  refine X_iload (x := v4) dX9_isAhead_32 rfl ?_
  refine X_bipush 7 dX9_isAhead_34 rfl ?_
  refine X_iadd dX9_isAhead_36 ?_
  refine X_iald sh_150 dX9_isAhead_37 h (fun h => ?_)
  refine X_icmp_eq 69 dX9_isAhead_38 (by decide) h (fun h => ?_) (fun h => ?_)
  · refine X_aload_n (x := 149) dX9_isAhead_69 rfl ?_
    refine X_get (v := .ref 150) kF_RX9_7 sh_149 rfl rfl dX9_isAhead_70 ?_
    refine X_iload_n (x := v3) dX9_isAhead_73 rfl ?_
    refine X_iconst 5 dX9_isAhead_74 rfl ?_
    refine X_iadd dX9_isAhead_75 ?_
    refine X_iald sh_150 dX9_isAhead_76 h (fun h => ?_)
    refine X_aload_n (x := 149) dX9_isAhead_77 rfl ?_
    refine X_get (v := .ref 150) kF_RX9_7 sh_149 rfl rfl dX9_isAhead_78 ?_
    refine X_iload (x := v4) dX9_isAhead_81 rfl ?_
    refine X_iconst 5 dX9_isAhead_83 rfl ?_
    refine X_iadd dX9_isAhead_84 ?_
    refine X_iald sh_150 dX9_isAhead_85 h (fun h => ?_)
    refine X_icmp_eq 115 dX9_isAhead_86 (by decide) h (fun h => ?_) (fun h => ?_)
    · refine X_aload_n (x := 149) dX9_isAhead_115 rfl ?_
      refine X_get (v := .ref 150) kF_RX9_7 sh_149 rfl rfl dX9_isAhead_116 ?_
      refine X_iload_n (x := v3) dX9_isAhead_119 rfl ?_
      refine X_bipush 6 dX9_isAhead_120 rfl ?_
      refine X_iadd dX9_isAhead_122 ?_
      refine X_iald sh_150 dX9_isAhead_123 h (fun h => ?_)
      refine X_aload_n (x := 149) dX9_isAhead_124 rfl ?_
      refine X_get (v := .ref 150) kF_RX9_7 sh_149 rfl rfl dX9_isAhead_125 ?_
      refine X_iload (x := v4) dX9_isAhead_128 rfl ?_
      refine X_bipush 6 dX9_isAhead_130 rfl ?_
      refine X_iadd dX9_isAhead_132 ?_
      refine X_iald sh_150 dX9_isAhead_133 h (fun h => ?_)
      refine X_icmp_eq 167 dX9_isAhead_134 (by decide) h (fun h => ?_) (fun h => ?_)
      · refine X_iload_n (x := a1) dX9_isAhead_167 rfl ?_
        refine X_iload_n (x := a2) dX9_isAhead_168 rfl ?_
        refine X_icmp_ge 176 dX9_isAhead_169 (by decide) h (fun h => ?_) (fun h => ?_)
        · refine X_iconst 0 dX9_isAhead_176 rfl ?_
          exact X_retLP (by decide) dX9_isAhead_177 rfl (Nat.le_refl _) (Nat.le_refl _) h
        · refine X_iconst 1 dX9_isAhead_172 rfl ?_
          refine X_goto 177 dX9_isAhead_173 (by decide) ?_
          exact X_retLP (by decide) dX9_isAhead_177 rfl (Nat.le_refl _) (Nat.le_refl _) h
      · refine X_aload_n (x := 149) dX9_isAhead_137 rfl ?_
        refine X_get (v := .ref 150) kF_RX9_7 sh_149 rfl rfl dX9_isAhead_138 ?_
        refine X_iload_n (x := v3) dX9_isAhead_141 rfl ?_
        refine X_bipush 6 dX9_isAhead_142 rfl ?_
        refine X_iadd dX9_isAhead_144 ?_
        refine X_iald sh_150 dX9_isAhead_145 h (fun h => ?_)
        refine X_aload_n (x := 149) dX9_isAhead_146 rfl ?_
        refine X_get (v := .ref 150) kF_RX9_7 sh_149 rfl rfl dX9_isAhead_147 ?_
        refine X_iload (x := v4) dX9_isAhead_150 rfl ?_
        refine X_bipush 6 dX9_isAhead_152 rfl ?_
        refine X_iadd dX9_isAhead_154 ?_
        refine X_iald sh_150 dX9_isAhead_155 h (fun h => ?_)
        refine X_icmp_le 163 dX9_isAhead_156 (by decide) h (fun h => ?_) (fun h => ?_)
        · refine X_iconst 0 dX9_isAhead_163 rfl ?_
          refine X_goto 177 dX9_isAhead_164 (by decide) ?_
          exact X_retLP (by decide) dX9_isAhead_177 rfl (Nat.le_refl _) (Nat.le_refl _) h
        · refine X_iconst 1 dX9_isAhead_159 rfl ?_
          refine X_goto 177 dX9_isAhead_160 (by decide) ?_
          exact X_retLP (by decide) dX9_isAhead_177 rfl (Nat.le_refl _) (Nat.le_refl _) h
    · refine X_aload_n (x := 149) dX9_isAhead_89 rfl ?_
      refine X_get (v := .ref 150) kF_RX9_7 sh_149 rfl rfl dX9_isAhead_90 ?_
      refine X_iload_n (x := v3) dX9_isAhead_93 rfl ?_
      refine X_iconst 5 dX9_isAhead_94 rfl ?_
      refine X_iadd dX9_isAhead_95 ?_
      refine X_iald sh_150 dX9_isAhead_96 h (fun h => ?_)
      refine X_aload_n (x := 149) dX9_isAhead_97 rfl ?_
      refine X_get (v := .ref 150) kF_RX9_7 sh_149 rfl rfl dX9_isAhead_98 ?_
      refine X_iload (x := v4) dX9_isAhead_101 rfl ?_
      refine X_iconst 5 dX9_isAhead_103 rfl ?_
      refine X_iadd dX9_isAhead_104 ?_
      refine X_iald sh_150 dX9_isAhead_105 h (fun h => ?_)
      refine X_icmp_le 113 dX9_isAhead_106 (by decide) h (fun h => ?_) (fun h => ?_)
      · refine X_iconst 0 dX9_isAhead_113 rfl ?_
        exact X_retLP (by decide) dX9_isAhead_114 rfl (Nat.le_refl _) (Nat.le_refl _) h
      · refine X_iconst 1 dX9_isAhead_109 rfl ?_
        refine X_goto 114 dX9_isAhead_110 (by decide) ?_
        exact X_retLP (by decide) dX9_isAhead_114 rfl (Nat.le_refl _) (Nat.le_refl _) h
  · refine X_aload_n (x := 149) dX9_isAhead_41 rfl ?_
    refine X_get (v := .ref 150) kF_RX9_7 sh_149 rfl rfl dX9_isAhead_42 ?_
    refine X_iload_n (x := v3) dX9_isAhead_45 rfl ?_
    refine X_bipush 7 dX9_isAhead_46 rfl ?_
    refine X_iadd dX9_isAhead_48 ?_
    refine X_iald sh_150 dX9_isAhead_49 h (fun h => ?_)
    refine X_aload_n (x := 149) dX9_isAhead_50 rfl ?_
    refine X_get (v := .ref 150) kF_RX9_7 sh_149 rfl rfl dX9_isAhead_51 ?_
    refine X_iload (x := v4) dX9_isAhead_54 rfl ?_
    refine X_bipush 7 dX9_isAhead_56 rfl ?_
    refine X_iadd dX9_isAhead_58 ?_
    refine X_iald sh_150 dX9_isAhead_59 h (fun h => ?_)
    refine X_icmp_ge 67 dX9_isAhead_60 (by decide) h (fun h => ?_) (fun h => ?_)
    · refine X_iconst 0 dX9_isAhead_67 rfl ?_
      exact X_retLP (by decide) dX9_isAhead_68 rfl (Nat.le_refl _) (Nat.le_refl _) h
    · refine X_iconst 1 dX9_isAhead_63 rfl ?_
      refine X_goto 68 dX9_isAhead_64 (by decide) ?_
      exact X_retLP (by decide) dX9_isAhead_68 rfl (Nat.le_refl _) (Nat.le_refl _) h
