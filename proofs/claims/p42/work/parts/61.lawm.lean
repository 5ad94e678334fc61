def f_L_answers_194 (M : xM) (i1 : Int32) (i2 : Int32) (i3 : Int32) (i4 : Int32) (i5 : Int32) (i6 : Int32) (i7 : Int32) (i8 : Int32) (i9 : Int32) (i10 : Int32) : Option (Int32 × xM) :=
  some (1, M)
set_option maxHeartbeats 1000000 in
theorem x_L_answers_194 {ξ : xX} {M : xM} {i1 : Int32} {i2 : Int32} {i3 : Int32} {i4 : Int32} {i5 : Int32} {i6 : Int32} {i7 : Int32} {i8 : Int32} {i9 : Int32} {i10 : Int32} {z : (Int32 × xM)} (h : f_L_answers_194 M i1 i2 i3 i4 i5 i6 i7 i8 i9 i10 = some z) : X ξ mL_answers 194 [.ref 0, .int i1, .int i2, .int i3, .int i4, .int i5, .int i6, .int i7, .int i8, .int i9, .int i10] [] SH M 0 0 (xr (some (.int z.1)) SH z.2) := by
  rw [f_L_answers_194] at h
  refine X_iconst 1 dL_answers_194 rfl ?_
  refine X_goto 199 dL_answers_195 (by decide) ?_
  exact X_retL (by decide) dL_answers_199 rfl (Nat.le_refl _) (Nat.le_refl _) h
def f_L_answers_179 (M : xM) (i1 : Int32) (i2 : Int32) (i3 : Int32) (i4 : Int32) (i5 : Int32) (i6 : Int32) (i7 : Int32) (i8 : Int32) (i9 : Int32) (i10 : Int32) (s0 : Int32) (s1 : Int32) : Option (Int32 × xM) :=
  if s0 = s1 then (
    if i10 < 9 then (
      f_L_answers_194 M i1 i2 i3 i4 i5 i6 i7 i8 i9 i10)
    else (
      if i7 ≤ 0 then (
        some (0, M))
      else (
        f_L_answers_194 M i1 i2 i3 i4 i5 i6 i7 i8 i9 i10)))
  else (
    some (0, M))
set_option maxHeartbeats 1000000 in
theorem x_L_answers_179 {ξ : xX} {M : xM} {i1 : Int32} {i2 : Int32} {i3 : Int32} {i4 : Int32} {i5 : Int32} {i6 : Int32} {i7 : Int32} {i8 : Int32} {i9 : Int32} {i10 : Int32} {s0 : Int32} {s1 : Int32} {z : (Int32 × xM)} (h : f_L_answers_179 M i1 i2 i3 i4 i5 i6 i7 i8 i9 i10 s0 s1 = some z) : X ξ mL_answers 179 [.ref 0, .int i1, .int i2, .int i3, .int i4, .int i5, .int i6, .int i7, .int i8, .int i9, .int i10] [.int s1, .int s0] SH M 0 0 (xr (some (.int z.1)) SH z.2) := by
  rw [f_L_answers_179] at h
  refine X_icmp_ne 198 dL_answers_179 (by decide) h (fun h => ?_) (fun h => ?_)
  · refine X_iconst 0 dL_answers_198 rfl ?_
    exact X_retL (by decide) dL_answers_199 rfl (Nat.le_refl _) (Nat.le_refl _) h
  · refine X_iload (x := i10) dL_answers_182 rfl ?_
    refine X_bipush 9 dL_answers_184 rfl ?_
    refine X_icmp_lt 194 dL_answers_186 (by decide) h (fun h => ?_) (fun h => ?_)
    · exact x_L_answers_194 h
    · refine X_iload (x := i7) dL_answers_189 rfl ?_
      refine X_if_le 198 dL_answers_191 (by decide) h (fun h => ?_) (fun h => ?_)
      · refine X_iconst 0 dL_answers_198 rfl ?_
        exact X_retL (by decide) dL_answers_199 rfl (Nat.le_refl _) (Nat.le_refl _) h
      · exact x_L_answers_194 h
def f_L_answers_116 (M : xM) (i1 : Int32) (i2 : Int32) (i3 : Int32) (i4 : Int32) (i5 : Int32) (i6 : Int32) (i7 : Int32) (s0 : Int32) : Option (Int32 × xM) :=
  xl s0 fun v10 =>
  xb2 (f_X8_answer M i1) fun v11 M12 =>
  xl v11 fun v13 =>
  if 0 ≤ v13 then (
    if i4 = 0 then (
      some (0, M12))
    else (
      if v10 = 0 then (
        some (0, M12))
      else (
        if i7 = 0 then (
          if v13 = i5 then (
            xb (f_X8_requested M12 i1 9) fun v14 =>
            if v14 = i6 then (
              xb (f_X8_total M12 11) fun v15 =>
              if v15 = 0 then (
                some (1, M12))
              else (
                some (0, M12)))
            else (
              some (0, M12)))
          else (
            some (0, M12)))
        else (
          some (0, M12)))))
  else (
    xb (f_X8_total M12 11) fun v16 =>
    xl v16 fun v17 =>
    if v13 = (-5) then (
      if i4 = 0 then (
        f_L_answers_179 M12 i1 i2 i3 i4 i5 i6 i7 v10 v13 v17 v17 6)
      else (
        if 0 ≤ i5 then (
          if v10 = 0 then (
            f_L_answers_179 M12 i1 i2 i3 i4 i5 i6 i7 v10 v13 v17 v17 8)
          else (
            f_L_answers_179 M12 i1 i2 i3 i4 i5 i6 i7 v10 v13 v17 v17 9))
        else (
          f_L_answers_179 M12 i1 i2 i3 i4 i5 i6 i7 v10 v13 v17 v17 7)))
    else (
      some (0, M12)))
set_option maxHeartbeats 1000000 in
theorem x_L_answers_116 {ξ : xX} {M : xM} {i1 : Int32} {i2 : Int32} {i3 : Int32} {i4 : Int32} {i5 : Int32} {i6 : Int32} {i7 : Int32} {s0 : Int32} {z : (Int32 × xM)} (h : f_L_answers_116 M i1 i2 i3 i4 i5 i6 i7 s0 = some z) : X ξ mL_answers 116 [.ref 0, .int i1, .int i2, .int i3, .int i4, .int i5, .int i6, .int i7] [.int s0] SH M 0 0 (xr (some (.int z.1)) SH z.2) := by
  rw [f_L_answers_116] at h
  refine X_istoreL (fun v10 => [.ref 0, .int i1, .int i2, .int i3, .int i4, .int i5, .int i6, .int i7, .int v10]) dL_answers_116 (Nat.le_of_ble_eq_true rfl) (Nat.le_of_ble_eq_true rfl) (xcat1_of rfl) h (fun _ => rfl) (fun v10 h => ?_)
  refine X_aload_n (x := 0) dL_answers_118 rfl ?_
  refine X_iload_n (x := i1) dL_answers_119 rfl ?_
  refine X_vI (μ' := mX8_answer) [.int i1] [] kL_RL_71 kM_X8_answer rv_0 rfl rfl rfl dL_answers_120 h (fun _ hv => x_X8_answer hv) (fun v11 M12 h => ?_)
  refine X_istoreL (fun v13 => [.ref 0, .int i1, .int i2, .int i3, .int i4, .int i5, .int i6, .int i7, .int v10, .int v13]) dL_answers_123 (Nat.le_of_ble_eq_true rfl) (Nat.le_of_ble_eq_true rfl) (xcat1_of rfl) h (fun _ => rfl) (fun v13 h => ?_)
  refine X_iload (x := v13) dL_answers_125 rfl ?_
  refine X_if_ge 200 dL_answers_127 (by decide) h (fun h => ?_) (fun h => ?_)
  · refine X_iload (x := i4) dL_answers_200 rfl ?_
    refine X_if_eq 247 dL_answers_202 (by decide) h (fun h => ?_) (fun h => ?_)
    · refine X_iconst 0 dL_answers_247 rfl ?_
      exact X_retL (by decide) dL_answers_248 rfl (Nat.le_refl _) (Nat.le_refl _) h
    · refine X_iload (x := v10) dL_answers_205 rfl ?_
      refine X_if_eq 247 dL_answers_207 (by decide) h (fun h => ?_) (fun h => ?_)
      · refine X_iconst 0 dL_answers_247 rfl ?_
        exact X_retL (by decide) dL_answers_248 rfl (Nat.le_refl _) (Nat.le_refl _) h
      · refine X_iload (x := i7) dL_answers_210 rfl ?_
        refine X_if_ne 247 dL_answers_212 (by decide) h (fun h => ?_) (fun h => ?_)
        · refine X_iconst 0 dL_answers_247 rfl ?_
          exact X_retL (by decide) dL_answers_248 rfl (Nat.le_refl _) (Nat.le_refl _) h
        · refine X_iload (x := v13) dL_answers_215 rfl ?_
          refine X_iload (x := i5) dL_answers_217 rfl ?_
          refine X_icmp_ne 247 dL_answers_219 (by decide) h (fun h => ?_) (fun h => ?_)
          · refine X_iconst 0 dL_answers_247 rfl ?_
            exact X_retL (by decide) dL_answers_248 rfl (Nat.le_refl _) (Nat.le_refl _) h
          · refine X_aload_n (x := 0) dL_answers_222 rfl ?_
            refine X_iload_n (x := i1) dL_answers_223 rfl ?_
            refine X_bipush 9 dL_answers_224 rfl ?_
            refine X_vP (μ' := mX8_requested) [.int i1, .int 9] [] kL_RL_18 kM_X8_requested rv_0 rfl rfl rfl dL_answers_226 h (fun _ hv => x_X8_requested hv) (fun v14 h => ?_)
            refine X_iload (x := i6) dL_answers_229 rfl ?_
            refine X_icmp_ne 247 dL_answers_231 (by decide) h (fun h => ?_) (fun h => ?_)
            · refine X_iconst 0 dL_answers_247 rfl ?_
              exact X_retL (by decide) dL_answers_248 rfl (Nat.le_refl _) (Nat.le_refl _) h
            · refine X_aload_n (x := 0) dL_answers_234 rfl ?_
              refine X_bipush 11 dL_answers_235 rfl ?_
              refine X_vP (μ' := mX8_total) [.int 11] [] kL_RL_9 kM_X8_total rv_0 rfl rfl rfl dL_answers_237 h (fun _ hv => x_X8_total hv) (fun v15 h => ?_)
              refine X_if_ne 247 dL_answers_240 (by decide) h (fun h => ?_) (fun h => ?_)
              · refine X_iconst 0 dL_answers_247 rfl ?_
                exact X_retL (by decide) dL_answers_248 rfl (Nat.le_refl _) (Nat.le_refl _) h
              · refine X_iconst 1 dL_answers_243 rfl ?_
                refine X_goto 248 dL_answers_244 (by decide) ?_
                exact X_retL (by decide) dL_answers_248 rfl (Nat.le_refl _) (Nat.le_refl _) h
  · refine X_aload_n (x := 0) dL_answers_130 rfl ?_
    refine X_bipush 11 dL_answers_131 rfl ?_
    refine X_vP (μ' := mX8_total) [.int 11] [] kL_RL_9 kM_X8_total rv_0 rfl rfl rfl dL_answers_133 h (fun _ hv => x_X8_total hv) (fun v16 h => ?_)
    refine X_istoreL (fun v17 => [.ref 0, .int i1, .int i2, .int i3, .int i4, .int i5, .int i6, .int i7, .int v10, .int v13, .int v17]) dL_answers_136 (Nat.le_of_ble_eq_true rfl) (Nat.le_of_ble_eq_true rfl) (xcat1_of rfl) h (fun _ => rfl) (fun v17 h => ?_)
    refine X_iload (x := v13) dL_answers_138 rfl ?_
    refine X_bipush (-5) dL_answers_140 rfl ?_
    refine X_icmp_ne 198 dL_answers_142 (by decide) h (fun h => ?_) (fun h => ?_)
    · refine X_iconst 0 dL_answers_198 rfl ?_
      exact X_retL (by decide) dL_answers_199 rfl (Nat.le_refl _) (Nat.le_refl _) h
    · refine X_iload (x := v17) dL_answers_145 rfl ?_
      refine X_iload (x := i4) dL_answers_147 rfl ?_
      refine X_if_ne 157 dL_answers_149 (by decide) h (fun h => ?_) (fun h => ?_)
      · refine X_iload (x := i5) dL_answers_157 rfl ?_
        refine X_if_ge 167 dL_answers_159 (by decide) h (fun h => ?_) (fun h => ?_)
        · refine X_iload (x := v10) dL_answers_167 rfl ?_
          refine X_if_ne 177 dL_answers_169 (by decide) h (fun h => ?_) (fun h => ?_)
          · refine X_bipush 9 dL_answers_177 rfl ?_
            exact x_L_answers_179 h
          · refine X_bipush 8 dL_answers_172 rfl ?_
            refine X_goto 179 dL_answers_174 (by decide) ?_
            exact x_L_answers_179 h
        · refine X_bipush 7 dL_answers_162 rfl ?_
          refine X_goto 179 dL_answers_164 (by decide) ?_
          exact x_L_answers_179 h
      · refine X_bipush 6 dL_answers_152 rfl ?_
        refine X_goto 179 dL_answers_154 (by decide) ?_
        exact x_L_answers_179 h
def f_L_answers_115 (M : xM) (i1 : Int32) (i2 : Int32) (i3 : Int32) (i4 : Int32) (i5 : Int32) (i6 : Int32) (i7 : Int32) : Option (Int32 × xM) :=
  f_L_answers_116 M i1 i2 i3 i4 i5 i6 i7 0
set_option maxHeartbeats 1000000 in
theorem x_L_answers_115 {ξ : xX} {M : xM} {i1 : Int32} {i2 : Int32} {i3 : Int32} {i4 : Int32} {i5 : Int32} {i6 : Int32} {i7 : Int32} {z : (Int32 × xM)} (h : f_L_answers_115 M i1 i2 i3 i4 i5 i6 i7 = some z) : X ξ mL_answers 115 [.ref 0, .int i1, .int i2, .int i3, .int i4, .int i5, .int i6, .int i7] [] SH M 0 0 (xr (some (.int z.1)) SH z.2) := by
  rw [f_L_answers_115] at h
  refine X_iconst 0 dL_answers_115 rfl ?_
  exact x_L_answers_116 h
def f_L_answers_28 (M : xM) (i1 : Int32) (i2 : Int32) (i3 : Int32) (s0 : Int32) : Option (Int32 × xM) :=
  xl s0 fun v18 =>
  xb (f_X8_bestPass M i3) fun v19 =>
  xl v19 fun v20 =>
  xb (f_X8_requested M i1 3) fun v21 =>
  xb (f_X8_requested M i1 4) fun v22 =>
  xb (f_X8_requested M i1 5) fun v23 =>
  xb (f_X8_fee M i2 i3 v21 v22 v23) fun v24 =>
  xl v24 fun v25 =>
  xb (f_X8_requested M i1 3) fun v26 =>
  xb (f_X8_requested M i1 4) fun v27 =>
  xb (f_X8_requested M i1 5) fun v28 =>
  xb (f_X8_lacking M i2 i3 v26 v27 v28) fun v29 =>
  xl v29 fun v30 =>
  if v20 < 0 then (
    f_L_answers_115 M i1 i2 i3 v18 v20 v25 v30)
  else (
    xb (f_X8_quality M v20 i3) fun v31 =>
    xb (f_X8_requested M i1 6) fun v32 =>
    if v31 < v32 then (
      f_L_answers_115 M i1 i2 i3 v18 v20 v25 v30)
    else (
      f_L_answers_116 M i1 i2 i3 v18 v20 v25 v30 1))
set_option maxHeartbeats 1000000 in
theorem x_L_answers_28 {ξ : xX} {M : xM} {i1 : Int32} {i2 : Int32} {i3 : Int32} {s0 : Int32} {z : (Int32 × xM)} (h : f_L_answers_28 M i1 i2 i3 s0 = some z) : X ξ mL_answers 28 [.ref 0, .int i1, .int i2, .int i3] [.int s0] SH M 0 0 (xr (some (.int z.1)) SH z.2) := by
  rw [f_L_answers_28] at h
  refine X_istoreL (fun v18 => [.ref 0, .int i1, .int i2, .int i3, .int v18]) dL_answers_28 (Nat.le_of_ble_eq_true rfl) (Nat.le_of_ble_eq_true rfl) (xcat1_of rfl) h (fun _ => rfl) (fun v18 h => ?_)
  refine X_aload_n (x := 0) dL_answers_30 rfl ?_
  refine X_iload_n (x := i3) dL_answers_31 rfl ?_
  refine X_vP (μ' := mX8_bestPass) [.int i3] [] kL_RL_46 kM_X8_bestPass rv_0 rfl rfl rfl dL_answers_32 h (fun _ hv => x_X8_bestPass hv) (fun v19 h => ?_)
  refine X_istoreL (fun v20 => [.ref 0, .int i1, .int i2, .int i3, .int v18, .int v20]) dL_answers_35 (Nat.le_of_ble_eq_true rfl) (Nat.le_of_ble_eq_true rfl) (xcat1_of rfl) h (fun _ => rfl) (fun v20 h => ?_)
  refine X_aload_n (x := 0) dL_answers_37 rfl ?_
  refine X_iload_n (x := i2) dL_answers_38 rfl ?_
  refine X_iload_n (x := i3) dL_answers_39 rfl ?_
  refine X_aload_n (x := 0) dL_answers_40 rfl ?_
  refine X_iload_n (x := i1) dL_answers_41 rfl ?_
  refine X_iconst 3 dL_answers_42 rfl ?_
  refine X_vP (μ' := mX8_requested) [.int i1, .int 3] [.int i3, .int i2, .ref 0] kL_RL_18 kM_X8_requested rv_0 rfl rfl rfl dL_answers_43 h (fun _ hv => x_X8_requested hv) (fun v21 h => ?_)
  refine X_aload_n (x := 0) dL_answers_46 rfl ?_
  refine X_iload_n (x := i1) dL_answers_47 rfl ?_
  refine X_iconst 4 dL_answers_48 rfl ?_
  refine X_vP (μ' := mX8_requested) [.int i1, .int 4] [.int v21, .int i3, .int i2, .ref 0] kL_RL_18 kM_X8_requested rv_0 rfl rfl rfl dL_answers_49 h (fun _ hv => x_X8_requested hv) (fun v22 h => ?_)
  refine X_aload_n (x := 0) dL_answers_52 rfl ?_
  refine X_iload_n (x := i1) dL_answers_53 rfl ?_
  refine X_iconst 5 dL_answers_54 rfl ?_
  refine X_vP (μ' := mX8_requested) [.int i1, .int 5] [.int v22, .int v21, .int i3, .int i2, .ref 0] kL_RL_18 kM_X8_requested rv_0 rfl rfl rfl dL_answers_55 h (fun _ hv => x_X8_requested hv) (fun v23 h => ?_)
  refine X_vP (μ' := mX8_fee) [.int i2, .int i3, .int v21, .int v22, .int v23] [] kL_RL_65 kM_X8_fee rv_0 rfl rfl rfl dL_answers_58 h (fun _ hv => x_X8_fee hv) (fun v24 h => ?_)
  refine X_istoreL (fun v25 => [.ref 0, .int i1, .int i2, .int i3, .int v18, .int v20, .int v25]) dL_answers_61 (Nat.le_of_ble_eq_true rfl) (Nat.le_of_ble_eq_true rfl) (xcat1_of rfl) h (fun _ => rfl) (fun v25 h => ?_)
  refine X_aload_n (x := 0) dL_answers_63 rfl ?_
  refine X_iload_n (x := i2) dL_answers_64 rfl ?_
  refine X_iload_n (x := i3) dL_answers_65 rfl ?_
  refine X_aload_n (x := 0) dL_answers_66 rfl ?_
  refine X_iload_n (x := i1) dL_answers_67 rfl ?_
  refine X_iconst 3 dL_answers_68 rfl ?_
  refine X_vP (μ' := mX8_requested) [.int i1, .int 3] [.int i3, .int i2, .ref 0] kL_RL_18 kM_X8_requested rv_0 rfl rfl rfl dL_answers_69 h (fun _ hv => x_X8_requested hv) (fun v26 h => ?_)
  refine X_aload_n (x := 0) dL_answers_72 rfl ?_
  refine X_iload_n (x := i1) dL_answers_73 rfl ?_
  refine X_iconst 4 dL_answers_74 rfl ?_
  refine X_vP (μ' := mX8_requested) [.int i1, .int 4] [.int v26, .int i3, .int i2, .ref 0] kL_RL_18 kM_X8_requested rv_0 rfl rfl rfl dL_answers_75 h (fun _ hv => x_X8_requested hv) (fun v27 h => ?_)
  refine X_aload_n (x := 0) dL_answers_78 rfl ?_
  refine X_iload_n (x := i1) dL_answers_79 rfl ?_
  refine X_iconst 5 dL_answers_80 rfl ?_
  refine X_vP (μ' := mX8_requested) [.int i1, .int 5] [.int v27, .int v26, .int i3, .int i2, .ref 0] kL_RL_18 kM_X8_requested rv_0 rfl rfl rfl dL_answers_81 h (fun _ hv => x_X8_requested hv) (fun v28 h => ?_)
  refine X_vP (μ' := mX8_lacking) [.int i2, .int i3, .int v26, .int v27, .int v28] [] kL_RL_68 kM_X8_lacking rv_0 rfl rfl rfl dL_answers_84 h (fun _ hv => x_X8_lacking hv) (fun v29 h => ?_)
  refine X_istoreL (fun v30 => [.ref 0, .int i1, .int i2, .int i3, .int v18, .int v20, .int v25, .int v30]) dL_answers_87 (Nat.le_of_ble_eq_true rfl) (Nat.le_of_ble_eq_true rfl) (xcat1_of rfl) h (fun _ => rfl) (fun v30 h => ?_)
  refine X_iload (x := v20) dL_answers_89 rfl ?_
  refine X_if_lt 115 dL_answers_91 (by decide) h (fun h => ?_) (fun h => ?_)
  · exact x_L_answers_115 h
  · refine X_aload_n (x := 0) dL_answers_94 rfl ?_
    refine X_iload (x := v20) dL_answers_95 rfl ?_
    refine X_iload_n (x := i3) dL_answers_97 rfl ?_
    refine X_vP (μ' := mX8_quality) [.int v20, .int i3] [] kL_RL_28 kM_X8_quality rv_0 rfl rfl rfl dL_answers_98 h (fun _ hv => x_X8_quality hv) (fun v31 h => ?_)
    refine X_aload_n (x := 0) dL_answers_101 rfl ?_
    refine X_iload_n (x := i1) dL_answers_102 rfl ?_
    refine X_bipush 6 dL_answers_103 rfl ?_
    refine X_vP (μ' := mX8_requested) [.int i1, .int 6] [.int v31] kL_RL_18 kM_X8_requested rv_0 rfl rfl rfl dL_answers_105 h (fun _ hv => x_X8_requested hv) (fun v32 h => ?_)
    refine X_icmp_lt 115 dL_answers_108 (by decide) h (fun h => ?_) (fun h => ?_)
    · exact x_L_answers_115 h
    · refine X_iconst 1 dL_answers_111 rfl ?_
      refine X_goto 116 dL_answers_112 (by decide) ?_
      exact x_L_answers_116 h
def f_L_answers (M : xM) (a1 : Int32) : Option (Int32 × xM) :=
  xb (f_X8_requested M a1 1) fun v33 =>
  xl v33 fun v34 =>
  xb (f_X8_requested M a1 2) fun v35 =>
  xl v35 fun v36 =>
  xb (f_X8_requested M a1 0) fun v37 =>
  if v37 = 0 then (
    f_L_answers_28 M a1 v34 v36 1)
  else (
    f_L_answers_28 M a1 v34 v36 0)
set_option maxHeartbeats 1000000 in
theorem x_L_answers {ξ : xX} {M : xM} {a1 : Int32} {z : (Int32 × xM)} (h : f_L_answers M a1 = some z) : X ξ mL_answers 0 [.ref 0, .int a1] [] SH M 0 0 (xr (some (.int z.1)) SH z.2) := by
  rw [f_L_answers] at h
  refine X_aload_n (x := 0) dL_answers_0 rfl ?_
  refine X_iload_n (x := a1) dL_answers_1 rfl ?_
  refine X_iconst 1 dL_answers_2 rfl ?_
  refine X_vP (μ' := mX8_requested) [.int a1, .int 1] [] kL_RL_18 kM_X8_requested rv_0 rfl rfl rfl dL_answers_3 h (fun _ hv => x_X8_requested hv) (fun v33 h => ?_)
  refine X_istoreL_n (fun v34 => [.ref 0, .int a1, .int v34]) dL_answers_6 (Nat.le_of_ble_eq_true rfl) (Nat.le_of_ble_eq_true rfl) (xcat1_of rfl) h (fun _ => rfl) (fun v34 h => ?_)
  refine X_aload_n (x := 0) dL_answers_7 rfl ?_
  refine X_iload_n (x := a1) dL_answers_8 rfl ?_
  refine X_iconst 2 dL_answers_9 rfl ?_
  refine X_vP (μ' := mX8_requested) [.int a1, .int 2] [] kL_RL_18 kM_X8_requested rv_0 rfl rfl rfl dL_answers_10 h (fun _ hv => x_X8_requested hv) (fun v35 h => ?_)
  refine X_istoreL_n (fun v36 => [.ref 0, .int a1, .int v34, .int v36]) dL_answers_13 (Nat.le_of_ble_eq_true rfl) (Nat.le_of_ble_eq_true rfl) (xcat1_of rfl) h (fun _ => rfl) (fun v36 h => ?_)
  refine X_aload_n (x := 0) dL_answers_14 rfl ?_
  refine X_iload_n (x := a1) dL_answers_15 rfl ?_
  refine X_iconst 0 dL_answers_16 rfl ?_
  refine X_vP (μ' := mX8_requested) [.int a1, .int 0] [] kL_RL_18 kM_X8_requested rv_0 rfl rfl rfl dL_answers_17 h (fun _ hv => x_X8_requested hv) (fun v37 h => ?_)
  refine X_if_ne 27 dL_answers_20 (by decide) h (fun h => ?_) (fun h => ?_)
  · refine X_iconst 0 dL_answers_27 rfl ?_
    exact x_L_answers_28 h
  · refine X_iconst 1 dL_answers_23 rfl ?_
    refine X_goto 28 dL_answers_24 (by decide) ?_
    exact x_L_answers_28 h
def f_L_acts_168 (M : xM) (i1 : Int32) (i2 : Int32) (i3 : Int32) (i4 : Int32) : Option (Int32 × xM) :=
  some (1, M)
set_option maxHeartbeats 1000000 in
theorem x_L_acts_168 {ξ : xX} {M : xM} {i1 : Int32} {i2 : Int32} {i3 : Int32} {i4 : Int32} {z : (Int32 × xM)} (h : f_L_acts_168 M i1 i2 i3 i4 = some z) : X ξ mL_acts 168 [.ref 0, .int i1, .int i2, .int i3, .int i4] [] SH M 0 0 (xr (some (.int z.1)) SH z.2) := by
  rw [f_L_acts_168] at h
  refine X_iconst 1 dL_acts_168 rfl ?_
  refine X_goto 173 dL_acts_169 (by decide) ?_
  exact X_retL (by decide) dL_acts_173 rfl (Nat.le_refl _) (Nat.le_refl _) h
def f_L_acts_279 (M : xM) (i1 : Int32) (i2 : Int32) (i3 : Int32) (i4 : Int32) : Option (Int32 × xM) :=
  some (1, M)
set_option maxHeartbeats 1000000 in
theorem x_L_acts_279 {ξ : xX} {M : xM} {i1 : Int32} {i2 : Int32} {i3 : Int32} {i4 : Int32} {z : (Int32 × xM)} (h : f_L_acts_279 M i1 i2 i3 i4 = some z) : X ξ mL_acts 279 [.ref 0, .int i1, .int i2, .int i3, .int i4] [] SH M 0 0 (xr (some (.int z.1)) SH z.2) := by
  rw [f_L_acts_279] at h
  refine X_iconst 1 dL_acts_279 rfl ?_
  refine X_goto 284 dL_acts_280 (by decide) ?_
  exact X_retL (by decide) dL_acts_284 rfl (Nat.le_refl _) (Nat.le_refl _) h
def f_L_acts_301 (M : xM) (i1 : Int32) (i2 : Int32) (i3 : Int32) (i4 : Int32) : Option (Int32 × xM) :=
  some (1, M)
set_option maxHeartbeats 1000000 in
theorem x_L_acts_301 {ξ : xX} {M : xM} {i1 : Int32} {i2 : Int32} {i3 : Int32} {i4 : Int32} {z : (Int32 × xM)} (h : f_L_acts_301 M i1 i2 i3 i4 = some z) : X ξ mL_acts 301 [.ref 0, .int i1, .int i2, .int i3, .int i4] [] SH M 0 0 (xr (some (.int z.1)) SH z.2) := by
  rw [f_L_acts_301] at h
  refine X_iconst 1 dL_acts_301 rfl ?_
  refine X_goto 306 dL_acts_302 (by decide) ?_
  exact X_retL (by decide) dL_acts_306 rfl (Nat.le_refl _) (Nat.le_refl _) h
def f_L_acts_350 (M : xM) (i1 : Int32) (i2 : Int32) (i3 : Int32) (i4 : Int32) : Option (Int32 × xM) :=
  some (1, M)
set_option maxHeartbeats 1000000 in
theorem x_L_acts_350 {ξ : xX} {M : xM} {i1 : Int32} {i2 : Int32} {i3 : Int32} {i4 : Int32} {z : (Int32 × xM)} (h : f_L_acts_350 M i1 i2 i3 i4 = some z) : X ξ mL_acts 350 [.ref 0, .int i1, .int i2, .int i3, .int i4] [] SH M 0 0 (xr (some (.int z.1)) SH z.2) := by
  rw [f_L_acts_350] at h
  refine X_iconst 1 dL_acts_350 rfl ?_
  refine X_goto 355 dL_acts_351 (by decide) ?_
  exact X_retL (by decide) dL_acts_355 rfl (Nat.le_refl _) (Nat.le_refl _) h
def f_L_acts (M : xM) (a1 : Int32) : Option (Int32 × xM) :=
  xl ((a1 : Int32) >>> ((3 : Int32) &&& 31)) fun v4 =>
  xb (f_X8_total M 3) fun v5 =>
  xl v5 fun v6 =>
  xb (f_X8_total M 6) fun v7 =>
  xl v7 fun v8 =>
  if (a1 &&& 7) = 0 then (
    xb (f_X8_total M 1) fun v9 =>
    if v9 = 0 then none else
    xb2 (f_X8_addRecording M (v4 - v4 / v9 * v9) ((1 : Int32) <<< (((((v4 : Int32) >>> ((2 : Int32) &&& 31)) - ((v4 : Int32) >>> ((2 : Int32) &&& 31)) / 4 * 4) : Int32) &&& 31)) (((v4 : Int32) >>> ((4 : Int32) &&& 31)) - ((v4 : Int32) >>> ((4 : Int32) &&& 31)) / 50 * 50) ((10 + (((v4 : Int32) >>> ((4 : Int32) &&& 31)) - ((v4 : Int32) >>> ((4 : Int32) &&& 31)) / 50 * 50)) + (((v4 : Int32) >>> ((10 : Int32) &&& 31)) - ((v4 : Int32) >>> ((10 : Int32) &&& 31)) / 40 * 40))) fun v10 M11 =>
    if v10 ≤ (-5) then (
      some (0, M11))
    else (
      some (1, M11)))
  else (
    if (a1 &&& 7) = 1 then (
      if v6 = 0 then (
        f_L_acts_168 M a1 v4 v6 v8)
      else (
        if v6 = 0 then none else
        xb2 (f_X8_addPart M (v4 - v4 / v6 * v6) (((v4 : Int32) >>> ((4 : Int32) &&& 31)) - ((v4 : Int32) >>> ((4 : Int32) &&& 31)) / 20 * 20) (((((v4 : Int32) >>> ((4 : Int32) &&& 31)) - ((v4 : Int32) >>> ((4 : Int32) &&& 31)) / 20 * 20) + 1) + (((v4 : Int32) >>> ((9 : Int32) &&& 31)) - ((v4 : Int32) >>> ((9 : Int32) &&& 31)) / 20 * 20)) (((v4 : Int32) >>> ((14 : Int32) &&& 31)) - ((v4 : Int32) >>> ((14 : Int32) &&& 31)) / 8 * 8) (((v4 : Int32) >>> ((17 : Int32) &&& 31)) - ((v4 : Int32) >>> ((17 : Int32) &&& 31)) / 30 * 30)) fun v12 M13 =>
        if v12 ≤ (-5) then (
          some (0, M13))
        else (
          f_L_acts_168 M13 a1 v4 v6 v8)))
    else (
      if (a1 &&& 7) = 2 then (
        xb2 (f_L_plays M v4) fun v14 M15 =>
        xgd (xz v14) (some (v14, M15)))
      else (
        if (a1 &&& 7) = 3 then (
          xb2 (f_L_plays M v4) fun v16 M17 =>
          xgd (xz v16) (some (v16, M17)))
        else (
          if (a1 &&& 7) = 4 then (
            xb2 (f_X8_permit M (v4 - v4 / 8 * 8) (((v4 : Int32) >>> ((3 : Int32) &&& 31)) - ((v4 : Int32) >>> ((3 : Int32) &&& 31)) / 8 * 8) (((v4 : Int32) >>> ((6 : Int32) &&& 31)) - ((v4 : Int32) >>> ((6 : Int32) &&& 31)) / 3 * 3) (((v4 : Int32) >>> ((8 : Int32) &&& 31)) - ((v4 : Int32) >>> ((8 : Int32) &&& 31)) / 60 * 60)) fun v18 M19 =>
            if v18 ≤ (-5) then (
              some (0, M19))
            else (
              some (1, M19)))
          else (
            if (a1 &&& 7) = 5 then (
              if v6 = 0 then (
                f_L_acts_279 M a1 v4 v6 v8)
              else (
                if v6 = 0 then none else
                xb2 (f_X8_request M (v4 - v4 / 8 * 8) (((v4 : Int32) >>> ((3 : Int32) &&& 31)) - ((v4 : Int32) >>> ((3 : Int32) &&& 31)) / v6 * v6) (((v4 : Int32) >>> ((7 : Int32) &&& 31)) - ((v4 : Int32) >>> ((7 : Int32) &&& 31)) / 10 * 10) (((((v4 : Int32) >>> ((7 : Int32) &&& 31)) - ((v4 : Int32) >>> ((7 : Int32) &&& 31)) / 10 * 10) + 1) + (((v4 : Int32) >>> ((11 : Int32) &&& 31)) - ((v4 : Int32) >>> ((11 : Int32) &&& 31)) / 30 * 30)) (((v4 : Int32) >>> ((16 : Int32) &&& 31)) - ((v4 : Int32) >>> ((16 : Int32) &&& 31)) / 3 * 3) (1 + (((v4 : Int32) >>> ((18 : Int32) &&& 31)) - ((v4 : Int32) >>> ((18 : Int32) &&& 31)) / 40 * 40))) fun v20 M21 =>
                if v20 ≤ (-5) then (
                  some (0, M21))
                else (
                  f_L_acts_279 M21 a1 v4 v6 v8)))
            else (
              if (a1 &&& 7) = 6 then (
                if v8 = 0 then (
                  f_L_acts_301 M a1 v4 v6 v8)
                else (
                  if v8 = 0 then none else
                  xb2 (f_L_answers M (v4 - v4 / v8 * v8)) fun v22 M23 =>
                  if v22 = 0 then (
                    some (0, M23))
                  else (
                    f_L_acts_301 M23 a1 v4 v6 v8)))
              else (
                xb2 (f_X8_passDays M (1 + (v4 - v4 / 12 * 12))) fun v24 M25 =>
                if v24 < 0 then (
                  some (0, M25))
                else (
                  if v8 = 0 then (
                    f_L_acts_350 M25 a1 v4 v6 v8)
                  else (
                    if (((v4 : Int32) >>> ((6 : Int32) &&& 31)) &&& 1) = 0 then (
                      f_L_acts_350 M25 a1 v4 v6 v8)
                    else (
                      if v8 = 0 then none else
                      xb2 (f_X8_withdraw M25 (((v4 : Int32) >>> ((7 : Int32) &&& 31)) - ((v4 : Int32) >>> ((7 : Int32) &&& 31)) / v8 * v8)) fun v26 M27 =>
                      if v26 ≤ (-4) then (
                        some (0, M27))
                      else (
                        f_L_acts_350 M27 a1 v4 v6 v8)))))))))))
set_option maxHeartbeats 1000000 in
theorem x_L_acts {ξ : xX} {M : xM} {a1 : Int32} {z : (Int32 × xM)} (h : f_L_acts M a1 = some z) : X ξ mL_acts 0 [.ref 0, .int a1] [] SH M 0 0 (xr (some (.int z.1)) SH z.2) := by
  rw [f_L_acts] at h
  refine X_iload_n (x := a1) dL_acts_0 rfl ?_
  refine X_iconst 3 dL_acts_1 rfl ?_
  refine X_ishr dL_acts_2 ?_
  refine X_istoreL_n (fun v4 => [.ref 0, .int a1, .int v4]) dL_acts_3 (Nat.le_of_ble_eq_true rfl) (Nat.le_of_ble_eq_true rfl) (xcat1_of rfl) h (fun _ => rfl) (fun v4 h => ?_)
  refine X_aload_n (x := 0) dL_acts_4 rfl ?_
  refine X_iconst 3 dL_acts_5 rfl ?_
  refine X_vP (μ' := mX8_total) [.int 3] [] kL_RL_9 kM_X8_total rv_0 rfl rfl rfl dL_acts_6 h (fun _ hv => x_X8_total hv) (fun v5 h => ?_)
  refine X_istoreL_n (fun v6 => [.ref 0, .int a1, .int v4, .int v6]) dL_acts_9 (Nat.le_of_ble_eq_true rfl) (Nat.le_of_ble_eq_true rfl) (xcat1_of rfl) h (fun _ => rfl) (fun v6 h => ?_)
  refine X_aload_n (x := 0) dL_acts_10 rfl ?_
  refine X_bipush 6 dL_acts_11 rfl ?_
  refine X_vP (μ' := mX8_total) [.int 6] [] kL_RL_9 kM_X8_total rv_0 rfl rfl rfl dL_acts_13 h (fun _ hv => x_X8_total hv) (fun v7 h => ?_)
  refine X_istoreL (fun v8 => [.ref 0, .int a1, .int v4, .int v6, .int v8]) dL_acts_16 (Nat.le_of_ble_eq_true rfl) (Nat.le_of_ble_eq_true rfl) (xcat1_of rfl) h (fun _ => rfl) (fun v8 h => ?_)
  refine X_iload_n (x := a1) dL_acts_18 rfl ?_
  refine X_bipush 7 dL_acts_19 rfl ?_
  refine X_iand dL_acts_21 ?_
  by_cases e0 : (a1 &&& 7) = 0
  · rw [if_pos e0] at h
    refine X_tsIn 0 64 e0 dL_acts_22 (by decide) (by decide) rfl (by decide) ?_
    refine X_aload_n (x := 0) dL_acts_64 rfl ?_
    refine X_iload_n (x := v4) dL_acts_65 rfl ?_
    refine X_aload_n (x := 0) dL_acts_66 rfl ?_
    refine X_iconst 1 dL_acts_67 rfl ?_
    refine X_vP (μ' := mX8_total) [.int 1] [.int v4, .ref 0] kL_RL_9 kM_X8_total rv_0 rfl rfl rfl dL_acts_68 h (fun _ hv => x_X8_total hv) (fun v9 h => ?_)
    refine X_iremG dL_acts_71 h (fun h => ?_)
    refine X_iconst 1 dL_acts_72 rfl ?_
    refine X_iload_n (x := v4) dL_acts_73 rfl ?_
    refine X_iconst 2 dL_acts_74 rfl ?_
    refine X_ishr dL_acts_75 ?_
    refine X_iconst 4 dL_acts_76 rfl ?_
    refine X_irem (by decide) dL_acts_77 ?_
    refine X_ishl dL_acts_78 ?_
    refine X_iload_n (x := v4) dL_acts_79 rfl ?_
    refine X_iconst 4 dL_acts_80 rfl ?_
    refine X_ishr dL_acts_81 ?_
    refine X_bipush 50 dL_acts_82 rfl ?_
    refine X_irem (by decide) dL_acts_84 ?_
    refine X_bipush 10 dL_acts_85 rfl ?_
    refine X_iload_n (x := v4) dL_acts_87 rfl ?_
    refine X_iconst 4 dL_acts_88 rfl ?_
    refine X_ishr dL_acts_89 ?_
    refine X_bipush 50 dL_acts_90 rfl ?_
    refine X_irem (by decide) dL_acts_92 ?_
    refine X_iadd dL_acts_93 ?_
    refine X_iload_n (x := v4) dL_acts_94 rfl ?_
    refine X_bipush 10 dL_acts_95 rfl ?_
    refine X_ishr dL_acts_97 ?_
    refine X_bipush 40 dL_acts_98 rfl ?_
    refine X_irem (by decide) dL_acts_100 ?_
    refine X_iadd dL_acts_101 ?_
    refine X_vI (μ' := mX8_addRecording) [.int (v4 - v4 / v9 * v9), .int ((1 : Int32) <<< (((((v4 : Int32) >>> ((2 : Int32) &&& 31)) - ((v4 : Int32) >>> ((2 : Int32) &&& 31)) / 4 * 4) : Int32) &&& 31)), .int (((v4 : Int32) >>> ((4 : Int32) &&& 31)) - ((v4 : Int32) >>> ((4 : Int32) &&& 31)) / 50 * 50), .int ((10 + (((v4 : Int32) >>> ((4 : Int32) &&& 31)) - ((v4 : Int32) >>> ((4 : Int32) &&& 31)) / 50 * 50)) + (((v4 : Int32) >>> ((10 : Int32) &&& 31)) - ((v4 : Int32) >>> ((10 : Int32) &&& 31)) / 40 * 40))] [] kL_RL_74 kM_X8_addRecording rv_0 rfl rfl rfl dL_acts_102 h (fun _ hv => x_X8_addRecording hv) (fun v10 M11 h => ?_)
    refine X_bipush (-5) dL_acts_105 rfl ?_
    refine X_icmp_le 114 dL_acts_107 (by decide) h (fun h => ?_) (fun h => ?_)
    · refine X_iconst 0 dL_acts_114 rfl ?_
      exact X_retL (by decide) dL_acts_115 rfl (Nat.le_refl _) (Nat.le_refl _) h
    · refine X_iconst 1 dL_acts_110 rfl ?_
      refine X_goto 115 dL_acts_111 (by decide) ?_
      exact X_retL (by decide) dL_acts_115 rfl (Nat.le_refl _) (Nat.le_refl _) h
  rw [if_neg e0] at h
  by_cases e1 : (a1 &&& 7) = 1
  · rw [if_pos e1] at h
    refine X_tsIn 1 116 e1 dL_acts_22 (by decide) (by decide) rfl (by decide) ?_
    refine X_iload_n (x := v6) dL_acts_116 rfl ?_
    refine X_if_eq 168 dL_acts_117 (by decide) h (fun h => ?_) (fun h => ?_)
    · exact x_L_acts_168 h
    · refine X_aload_n (x := 0) dL_acts_120 rfl ?_
      refine X_iload_n (x := v4) dL_acts_121 rfl ?_
      refine X_iload_n (x := v6) dL_acts_122 rfl ?_
      refine X_iremG dL_acts_123 h (fun h => ?_)
      refine X_iload_n (x := v4) dL_acts_124 rfl ?_
      refine X_iconst 4 dL_acts_125 rfl ?_
      refine X_ishr dL_acts_126 ?_
      refine X_bipush 20 dL_acts_127 rfl ?_
      refine X_irem (by decide) dL_acts_129 ?_
      refine X_iload_n (x := v4) dL_acts_130 rfl ?_
      refine X_iconst 4 dL_acts_131 rfl ?_
      refine X_ishr dL_acts_132 ?_
      refine X_bipush 20 dL_acts_133 rfl ?_
      refine X_irem (by decide) dL_acts_135 ?_
      refine X_iconst 1 dL_acts_136 rfl ?_
      refine X_iadd dL_acts_137 ?_
      refine X_iload_n (x := v4) dL_acts_138 rfl ?_
      refine X_bipush 9 dL_acts_139 rfl ?_
      refine X_ishr dL_acts_141 ?_
      refine X_bipush 20 dL_acts_142 rfl ?_
      refine X_irem (by decide) dL_acts_144 ?_
      refine X_iadd dL_acts_145 ?_
      refine X_iload_n (x := v4) dL_acts_146 rfl ?_
      refine X_bipush 14 dL_acts_147 rfl ?_
      refine X_ishr dL_acts_149 ?_
      refine X_bipush 8 dL_acts_150 rfl ?_
      refine X_irem (by decide) dL_acts_152 ?_
      refine X_iload_n (x := v4) dL_acts_153 rfl ?_
      refine X_bipush 17 dL_acts_154 rfl ?_
      refine X_ishr dL_acts_156 ?_
      refine X_bipush 30 dL_acts_157 rfl ?_
      refine X_irem (by decide) dL_acts_159 ?_
      refine X_vI (μ' := mX8_addPart) [.int (v4 - v4 / v6 * v6), .int (((v4 : Int32) >>> ((4 : Int32) &&& 31)) - ((v4 : Int32) >>> ((4 : Int32) &&& 31)) / 20 * 20), .int (((((v4 : Int32) >>> ((4 : Int32) &&& 31)) - ((v4 : Int32) >>> ((4 : Int32) &&& 31)) / 20 * 20) + 1) + (((v4 : Int32) >>> ((9 : Int32) &&& 31)) - ((v4 : Int32) >>> ((9 : Int32) &&& 31)) / 20 * 20)), .int (((v4 : Int32) >>> ((14 : Int32) &&& 31)) - ((v4 : Int32) >>> ((14 : Int32) &&& 31)) / 8 * 8), .int (((v4 : Int32) >>> ((17 : Int32) &&& 31)) - ((v4 : Int32) >>> ((17 : Int32) &&& 31)) / 30 * 30)] [] kL_RL_77 kM_X8_addPart rv_0 rfl rfl rfl dL_acts_160 h (fun _ hv => x_X8_addPart hv) (fun v12 M13 h => ?_)
      refine X_bipush (-5) dL_acts_163 rfl ?_
      refine X_icmp_le 172 dL_acts_165 (by decide) h (fun h => ?_) (fun h => ?_)
      · refine X_iconst 0 dL_acts_172 rfl ?_
        exact X_retL (by decide) dL_acts_173 rfl (Nat.le_refl _) (Nat.le_refl _) h
      · exact x_L_acts_168 h
  rw [if_neg e1] at h
  by_cases e2 : (a1 &&& 7) = 2
  · rw [if_pos e2] at h
    refine X_tsIn 2 174 e2 dL_acts_22 (by decide) (by decide) rfl (by decide) ?_
    refine X_aload_n (x := 0) dL_acts_174 rfl ?_
    refine X_iload_n (x := v4) dL_acts_175 rfl ?_
    refine X_sI (μ' := mL_plays) [.ref 0, .int v4] [] kL_RL_80 kM_L_plays rfl rfl rfl dL_acts_176 h (fun _ hv => x_L_plays hv) (fun v14 M15 h => ?_)
    exact X_retZI dL_acts_179 rfl (Nat.le_refl _) (Nat.le_refl _) h
  rw [if_neg e2] at h
  by_cases e3 : (a1 &&& 7) = 3
  · rw [if_pos e3] at h
    refine X_tsIn 3 174 e3 dL_acts_22 (by decide) (by decide) rfl (by decide) ?_
    refine X_aload_n (x := 0) dL_acts_174 rfl ?_
    refine X_iload_n (x := v4) dL_acts_175 rfl ?_
    refine X_sI (μ' := mL_plays) [.ref 0, .int v4] [] kL_RL_80 kM_L_plays rfl rfl rfl dL_acts_176 h (fun _ hv => x_L_plays hv) (fun v16 M17 h => ?_)
    exact X_retZI dL_acts_179 rfl (Nat.le_refl _) (Nat.le_refl _) h
  rw [if_neg e3] at h
  by_cases e4 : (a1 &&& 7) = 4
  · rw [if_pos e4] at h
    refine X_tsIn 4 180 e4 dL_acts_22 (by decide) (by decide) rfl (by decide) ?_
    refine X_aload_n (x := 0) dL_acts_180 rfl ?_
    refine X_iload_n (x := v4) dL_acts_181 rfl ?_
    refine X_bipush 8 dL_acts_182 rfl ?_
    refine X_irem (by decide) dL_acts_184 ?_
    refine X_iload_n (x := v4) dL_acts_185 rfl ?_
    refine X_iconst 3 dL_acts_186 rfl ?_
    refine X_ishr dL_acts_187 ?_
    refine X_bipush 8 dL_acts_188 rfl ?_
    refine X_irem (by decide) dL_acts_190 ?_
    refine X_iload_n (x := v4) dL_acts_191 rfl ?_
    refine X_bipush 6 dL_acts_192 rfl ?_
    refine X_ishr dL_acts_194 ?_
    refine X_iconst 3 dL_acts_195 rfl ?_
    refine X_irem (by decide) dL_acts_196 ?_
    refine X_iload_n (x := v4) dL_acts_197 rfl ?_
    refine X_bipush 8 dL_acts_198 rfl ?_
    refine X_ishr dL_acts_200 ?_
    refine X_bipush 60 dL_acts_201 rfl ?_
    refine X_irem (by decide) dL_acts_203 ?_
    refine X_vI (μ' := mX8_permit) [.int (v4 - v4 / 8 * 8), .int (((v4 : Int32) >>> ((3 : Int32) &&& 31)) - ((v4 : Int32) >>> ((3 : Int32) &&& 31)) / 8 * 8), .int (((v4 : Int32) >>> ((6 : Int32) &&& 31)) - ((v4 : Int32) >>> ((6 : Int32) &&& 31)) / 3 * 3), .int (((v4 : Int32) >>> ((8 : Int32) &&& 31)) - ((v4 : Int32) >>> ((8 : Int32) &&& 31)) / 60 * 60)] [] kL_RL_84 kM_X8_permit rv_0 rfl rfl rfl dL_acts_204 h (fun _ hv => x_X8_permit hv) (fun v18 M19 h => ?_)
    refine X_bipush (-5) dL_acts_207 rfl ?_
    refine X_icmp_le 216 dL_acts_209 (by decide) h (fun h => ?_) (fun h => ?_)
    · refine X_iconst 0 dL_acts_216 rfl ?_
      exact X_retL (by decide) dL_acts_217 rfl (Nat.le_refl _) (Nat.le_refl _) h
    · refine X_iconst 1 dL_acts_212 rfl ?_
      refine X_goto 217 dL_acts_213 (by decide) ?_
      exact X_retL (by decide) dL_acts_217 rfl (Nat.le_refl _) (Nat.le_refl _) h
  rw [if_neg e4] at h
  by_cases e5 : (a1 &&& 7) = 5
  · rw [if_pos e5] at h
    refine X_tsIn 5 218 e5 dL_acts_22 (by decide) (by decide) rfl (by decide) ?_
    refine X_iload_n (x := v6) dL_acts_218 rfl ?_
    refine X_if_eq 279 dL_acts_219 (by decide) h (fun h => ?_) (fun h => ?_)
    · exact x_L_acts_279 h
    · refine X_aload_n (x := 0) dL_acts_222 rfl ?_
      refine X_iload_n (x := v4) dL_acts_223 rfl ?_
      refine X_bipush 8 dL_acts_224 rfl ?_
      refine X_irem (by decide) dL_acts_226 ?_
      refine X_iload_n (x := v4) dL_acts_227 rfl ?_
      refine X_iconst 3 dL_acts_228 rfl ?_
      refine X_ishr dL_acts_229 ?_
      refine X_iload_n (x := v6) dL_acts_230 rfl ?_
      refine X_iremG dL_acts_231 h (fun h => ?_)
      refine X_iload_n (x := v4) dL_acts_232 rfl ?_
      refine X_bipush 7 dL_acts_233 rfl ?_
      refine X_ishr dL_acts_235 ?_
      refine X_bipush 10 dL_acts_236 rfl ?_
      refine X_irem (by decide) dL_acts_238 ?_
      refine X_iload_n (x := v4) dL_acts_239 rfl ?_
      refine X_bipush 7 dL_acts_240 rfl ?_
      refine X_ishr dL_acts_242 ?_
      refine X_bipush 10 dL_acts_243 rfl ?_
      refine X_irem (by decide) dL_acts_245 ?_
      refine X_iconst 1 dL_acts_246 rfl ?_
      refine X_iadd dL_acts_247 ?_
      refine X_iload_n (x := v4) dL_acts_248 rfl ?_
      refine X_bipush 11 dL_acts_249 rfl ?_
      refine X_ishr dL_acts_251 ?_
      refine X_bipush 30 dL_acts_252 rfl ?_
      refine X_irem (by decide) dL_acts_254 ?_
      refine X_iadd dL_acts_255 ?_
      refine X_iload_n (x := v4) dL_acts_256 rfl ?_
      refine X_bipush 16 dL_acts_257 rfl ?_
      refine X_ishr dL_acts_259 ?_
      refine X_iconst 3 dL_acts_260 rfl ?_
      refine X_irem (by decide) dL_acts_261 ?_
      refine X_iconst 1 dL_acts_262 rfl ?_
      refine X_iload_n (x := v4) dL_acts_263 rfl ?_
      refine X_bipush 18 dL_acts_264 rfl ?_
      refine X_ishr dL_acts_266 ?_
      refine X_bipush 40 dL_acts_267 rfl ?_
      refine X_irem (by decide) dL_acts_269 ?_
      refine X_iadd dL_acts_270 ?_
      refine X_vI (μ' := mX8_request) [.int (v4 - v4 / 8 * 8), .int (((v4 : Int32) >>> ((3 : Int32) &&& 31)) - ((v4 : Int32) >>> ((3 : Int32) &&& 31)) / v6 * v6), .int (((v4 : Int32) >>> ((7 : Int32) &&& 31)) - ((v4 : Int32) >>> ((7 : Int32) &&& 31)) / 10 * 10), .int (((((v4 : Int32) >>> ((7 : Int32) &&& 31)) - ((v4 : Int32) >>> ((7 : Int32) &&& 31)) / 10 * 10) + 1) + (((v4 : Int32) >>> ((11 : Int32) &&& 31)) - ((v4 : Int32) >>> ((11 : Int32) &&& 31)) / 30 * 30)), .int (((v4 : Int32) >>> ((16 : Int32) &&& 31)) - ((v4 : Int32) >>> ((16 : Int32) &&& 31)) / 3 * 3), .int (1 + (((v4 : Int32) >>> ((18 : Int32) &&& 31)) - ((v4 : Int32) >>> ((18 : Int32) &&& 31)) / 40 * 40))] [] kL_RL_87 kM_X8_request rv_0 rfl rfl rfl dL_acts_271 h (fun _ hv => x_X8_request hv) (fun v20 M21 h => ?_)
      refine X_bipush (-5) dL_acts_274 rfl ?_
      refine X_icmp_le 283 dL_acts_276 (by decide) h (fun h => ?_) (fun h => ?_)
      · refine X_iconst 0 dL_acts_283 rfl ?_
        exact X_retL (by decide) dL_acts_284 rfl (Nat.le_refl _) (Nat.le_refl _) h
      · exact x_L_acts_279 h
  rw [if_neg e5] at h
  by_cases e6 : (a1 &&& 7) = 6
  · rw [if_pos e6] at h
    refine X_tsIn 6 285 e6 dL_acts_22 (by decide) (by decide) rfl (by decide) ?_
    refine X_iload (x := v8) dL_acts_285 rfl ?_
    refine X_if_eq 301 dL_acts_287 (by decide) h (fun h => ?_) (fun h => ?_)
    · exact x_L_acts_301 h
    · refine X_aload_n (x := 0) dL_acts_290 rfl ?_
      refine X_iload_n (x := v4) dL_acts_291 rfl ?_
      refine X_iload (x := v8) dL_acts_292 rfl ?_
      refine X_iremG dL_acts_294 h (fun h => ?_)
      refine X_sI (μ' := mL_answers) [.ref 0, .int (v4 - v4 / v8 * v8)] [] kL_RL_91 kM_L_answers rfl rfl rfl dL_acts_295 h (fun _ hv => x_L_answers hv) (fun v22 M23 h => ?_)
      refine X_if_eq 305 dL_acts_298 (by decide) h (fun h => ?_) (fun h => ?_)
      · refine X_iconst 0 dL_acts_305 rfl ?_
        exact X_retL (by decide) dL_acts_306 rfl (Nat.le_refl _) (Nat.le_refl _) h
      · exact x_L_acts_301 h
  rw [if_neg e6] at h
  refine X_tsOut 307 dL_acts_22 (xsw_out (lo := 0) 7 (lt_s (lt_s (lt_s (lt_s (lt_s (lt_s (lt_s lt_0 (xne (c := 0) rfl e0)) (xne (c := 1) rfl e1)) (xne (c := 2) rfl e2)) (xne (c := 3) rfl e3)) (xne (c := 4) rfl e4)) (xne (c := 5) rfl e5)) (xne (c := 6) rfl e6))) (by decide) ?_
  refine X_aload_n (x := 0) dL_acts_307 rfl ?_
  refine X_iconst 1 dL_acts_308 rfl ?_
  refine X_iload_n (x := v4) dL_acts_309 rfl ?_
  refine X_bipush 12 dL_acts_310 rfl ?_
  refine X_irem (by decide) dL_acts_312 ?_
  refine X_iadd dL_acts_313 ?_
  refine X_vI (μ' := mX8_passDays) [.int (1 + (v4 - v4 / 12 * 12))] [] kL_RL_94 kM_X8_passDays rv_0 rfl rfl rfl dL_acts_314 h (fun _ hv => x_X8_passDays hv) (fun v24 M25 h => ?_)
  refine X_if_lt 354 dL_acts_317 (by decide) h (fun h => ?_) (fun h => ?_)
  · refine X_iconst 0 dL_acts_354 rfl ?_
    exact X_retL (by decide) dL_acts_355 rfl (Nat.le_refl _) (Nat.le_refl _) h
  · refine X_iload (x := v8) dL_acts_320 rfl ?_
    refine X_if_eq 350 dL_acts_322 (by decide) h (fun h => ?_) (fun h => ?_)
    · exact x_L_acts_350 h
    · refine X_iload_n (x := v4) dL_acts_325 rfl ?_
      refine X_bipush 6 dL_acts_326 rfl ?_
      refine X_ishr dL_acts_328 ?_
      refine X_iconst 1 dL_acts_329 rfl ?_
      refine X_iand dL_acts_330 ?_
      refine X_if_eq 350 dL_acts_331 (by decide) h (fun h => ?_) (fun h => ?_)
      · exact x_L_acts_350 h
      · refine X_aload_n (x := 0) dL_acts_334 rfl ?_
        refine X_iload_n (x := v4) dL_acts_335 rfl ?_
        refine X_bipush 7 dL_acts_336 rfl ?_
        refine X_ishr dL_acts_338 ?_
        refine X_iload (x := v8) dL_acts_339 rfl ?_
        refine X_iremG dL_acts_341 h (fun h => ?_)
        refine X_vI (μ' := mX8_withdraw) [.int (((v4 : Int32) >>> ((7 : Int32) &&& 31)) - ((v4 : Int32) >>> ((7 : Int32) &&& 31)) / v8 * v8)] [] kL_RL_97 kM_X8_withdraw rv_0 rfl rfl rfl dL_acts_342 h (fun _ hv => x_X8_withdraw hv) (fun v26 M27 h => ?_)
        refine X_bipush (-4) dL_acts_345 rfl ?_
        refine X_icmp_le 354 dL_acts_347 (by decide) h (fun h => ?_) (fun h => ?_)
        · refine X_iconst 0 dL_acts_354 rfl ?_
          exact X_retL (by decide) dL_acts_355 rfl (Nat.le_refl _) (Nat.le_refl _) h
        · exact x_L_acts_350 h
