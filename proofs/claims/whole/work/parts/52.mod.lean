def f_X9_feeFor_6 (M : xM) : Nat → Int32 → Int32 → Int32 → Int32 → Int32 → Int32 → Int32 → Option Int32
  | 0, _, _, _, _, _, _, _ => none
  | fu + 1, i1, i2, i3, i4, i5, i6, i7 =>
    xgd (xin ((84 + (5 * i2)) + 4) 916) <|
    if (M 150 ((84 + (5 * i2)) + 4).toNatClampNeg) ≤ i7 then (
      some i6)
    else (
      xb (f_X9_shared M i2 i7 i3 i4 i1) fun v5 =>
      xb (f_X9_price i5) fun v6 =>
      xl (i6 + (v5 * v6)) fun v7 =>
      xl (i7 + 1) fun v8 =>
      (f_X9_feeFor_6 M fu) i1 i2 i3 i4 i5 v7 v8)
set_option maxHeartbeats 1000000 in
theorem x_X9_feeFor_6 {ξ : xX} {M : xM} : ∀ (fu : Nat) (i1 i2 i3 i4 i5 i6 i7 : Int32) (z : Int32), f_X9_feeFor_6 M fu i1 i2 i3 i4 i5 i6 i7 = some z → X ξ mX9_feeFor 6 [.ref 149, .int i1, .int i2, .int i3, .int i4, .int i5, .int i6, .int i7] [] SH M 0 0 (xr (some (.int z)) SH M) := by
  intro fu
  induction fu with
  | zero => intro i1 i2 i3 i4 i5 i6 i7 z h; rw [f_X9_feeFor_6] at h; cases h
  | succ fu ih =>
    intro i1 i2 i3 i4 i5 i6 i7 z h
    rw [f_X9_feeFor_6] at h
    refine X_iload (x := i7) dX9_feeFor_6 rfl ?_
    refine X_aload_n (x := 149) dX9_feeFor_8 rfl ?_
    refine X_get (v := .ref 150) kF_RX9_7 sh_149 rfl rfl dX9_feeFor_9 ?_
    refine X_bipush 84 dX9_feeFor_12 rfl ?_
    refine X_iconst 5 dX9_feeFor_14 rfl ?_
    refine X_iload_n (x := i2) dX9_feeFor_15 rfl ?_
    refine X_imul dX9_feeFor_16 ?_
    refine X_iadd dX9_feeFor_17 ?_
    refine X_iconst 4 dX9_feeFor_18 rfl ?_
    refine X_iadd dX9_feeFor_19 ?_
    refine X_iald sh_150 dX9_feeFor_20 h (fun h => ?_)
    refine X_icmp_ge 52 dX9_feeFor_21 (by decide) h (fun h => ?_) (fun h => ?_)
    · refine X_iload (x := i6) dX9_feeFor_52 rfl ?_
      exact X_retP dX9_feeFor_54 rfl (Nat.le_refl _) (Nat.le_refl _) h
    · refine X_iload (x := i6) dX9_feeFor_24 rfl ?_
      refine X_aload_n (x := 149) dX9_feeFor_26 rfl ?_
      refine X_iload_n (x := i2) dX9_feeFor_27 rfl ?_
      refine X_iload (x := i7) dX9_feeFor_28 rfl ?_
      refine X_iload_n (x := i3) dX9_feeFor_30 rfl ?_
      refine X_iload (x := i4) dX9_feeFor_31 rfl ?_
      refine X_iload_n (x := i1) dX9_feeFor_33 rfl ?_
      refine X_vP (μ' := mX9_shared) [.int i2, .int i7, .int i3, .int i4, .int i1] [.int i6] kL_RX9_123 kM_X9_shared rv_149 rfl rfl rfl dX9_feeFor_34 h (fun _ hv => x_X9_shared hv) (fun v5 h => ?_)
      refine X_iload (x := i5) dX9_feeFor_37 rfl ?_
      refine X_sP (μ' := mX9_price) [.int i5] [.int v5, .int i6] kL_RX9_129 kM_X9_price rfl rfl rfl dX9_feeFor_39 h (fun _ hv => x_X9_price hv) (fun v6 h => ?_)
      refine X_imul dX9_feeFor_42 ?_
      refine X_iadd dX9_feeFor_43 ?_
      refine X_istoreL (fun v7 => [.ref 149, .int i1, .int i2, .int i3, .int i4, .int i5, .int v7, .int i7]) dX9_feeFor_44 (Nat.le_of_ble_eq_true rfl) (Nat.le_of_ble_eq_true rfl) (xcat1_of rfl) h (fun _ => rfl) (fun v7 h => ?_)
      refine X_iincL (x := i7) 1 (fun v8 => [.ref 149, .int i1, .int i2, .int i3, .int i4, .int i5, .int v7, .int v8]) dX9_feeFor_46 rfl rfl (Nat.le_of_ble_eq_true rfl) (xcat1_of rfl) h (fun _ => rfl) (fun v8 h => ?_)
      refine X_goto 6 dX9_feeFor_49 (by decide) ?_
      exact ih _ _ _ _ _ _ _ _ h
def f_X9_feeFor (M : xM) (a1 a2 a3 a4 a5 : Int32) : Option Int32 :=
  xl (0 : Int32) fun v9 =>
  xl (0 : Int32) fun v10 =>
  f_X9_feeFor_6 M xFU a1 a2 a3 a4 a5 v9 v10
set_option maxHeartbeats 1000000 in
theorem x_X9_feeFor {ξ : xX} {M : xM} {a1 a2 a3 a4 a5 : Int32} {z : Int32} (h : f_X9_feeFor M a1 a2 a3 a4 a5 = some z) : X ξ mX9_feeFor 0 [.ref 149, .int a1, .int a2, .int a3, .int a4, .int a5] [] SH M 0 0 (xr (some (.int z)) SH M) := by
  rw [f_X9_feeFor] at h
  refine X_iconst 0 dX9_feeFor_0 rfl ?_
  refine X_istoreL (fun v9 => [.ref 149, .int a1, .int a2, .int a3, .int a4, .int a5, .int v9]) dX9_feeFor_1 (Nat.le_of_ble_eq_true rfl) (Nat.le_of_ble_eq_true rfl) (xcat1_of rfl) h (fun _ => rfl) (fun v9 h => ?_)
  refine X_iconst 0 dX9_feeFor_3 rfl ?_
  refine X_istoreL (fun v10 => [.ref 149, .int a1, .int a2, .int a3, .int a4, .int a5, .int v9, .int v10]) dX9_feeFor_4 (Nat.le_of_ble_eq_true rfl) (Nat.le_of_ble_eq_true rfl) (xcat1_of rfl) h (fun _ => rfl) (fun v10 h => ?_)
  exact x_X9_feeFor_6 _ _ _ _ _ _ _ _ _ h
def f_X9_request_202 (M : xM) (i1 : Int32) (i2 : Int32) (i3 : Int32) (i4 : Int32) (i5 : Int32) (i6 : Int32) (i7 : Int32) (s1 : Int32) (s2 : Int32) : Option (Int32 × xM) :=
  xgd (xin s1 916) <| xl (xw M 150 s1.toNatClampNeg s2) fun M2 =>
  xgd (xin (i7 + 8) 916) <| xl (xw M2 150 (i7 + 8).toNatClampNeg (-6)) fun M3 =>
  xgd (xin (i7 + 9) 916) <| xl (xw M3 150 (i7 + 9).toNatClampNeg 0) fun M4 =>
  xgd (xin 6 916) <|
  xgd (xin 6 916) <| xl (xw M4 150 (6 : Int32).toNatClampNeg ((M4 150 (6 : Int32).toNatClampNeg) + 1)) fun M5 =>
  xgd (xin 6 916) <|
  some (((M5 150 (6 : Int32).toNatClampNeg) - 1), M5)
set_option maxHeartbeats 1000000 in
theorem x_X9_request_202 {ξ : xX} {M : xM} {i1 : Int32} {i2 : Int32} {i3 : Int32} {i4 : Int32} {i5 : Int32} {i6 : Int32} {i7 : Int32} {s1 : Int32} {s2 : Int32} {z : (Int32 × xM)} (h : f_X9_request_202 M i1 i2 i3 i4 i5 i6 i7 s1 s2 = some z) : X ξ mX9_request 202 [.ref 149, .int i1, .int i2, .int i3, .int i4, .int i5, .int i6, .int i7] [.int s2, .int s1, .ref 150] SH M 0 0 (xr (some (.int z.1)) SH z.2) := by
  rw [f_X9_request_202] at h
  refine X_iast sh_150 dX9_request_202 h (fun M2 h => ?_)
  refine X_aload_n (x := 149) dX9_request_203 rfl ?_
  refine X_get (v := .ref 150) kF_RX9_7 sh_149 rfl rfl dX9_request_204 ?_
  refine X_iload (x := i7) dX9_request_207 rfl ?_
  refine X_bipush 8 dX9_request_209 rfl ?_
  refine X_iadd dX9_request_211 ?_
  refine X_bipush (-6) dX9_request_212 rfl ?_
  refine X_iast sh_150 dX9_request_214 h (fun M3 h => ?_)
  refine X_aload_n (x := 149) dX9_request_215 rfl ?_
  refine X_get (v := .ref 150) kF_RX9_7 sh_149 rfl rfl dX9_request_216 ?_
  refine X_iload (x := i7) dX9_request_219 rfl ?_
  refine X_bipush 9 dX9_request_221 rfl ?_
  refine X_iadd dX9_request_223 ?_
  refine X_iconst 0 dX9_request_224 rfl ?_
  refine X_iast sh_150 dX9_request_225 h (fun M4 h => ?_)
  refine X_aload_n (x := 149) dX9_request_226 rfl ?_
  refine X_get (v := .ref 150) kF_RX9_7 sh_149 rfl rfl dX9_request_227 ?_
  refine X_bipush 6 dX9_request_230 rfl ?_
  refine X_dup2 dX9_request_232 rfl rfl ?_
  refine X_iald sh_150 dX9_request_233 h (fun h => ?_)
  refine X_iconst 1 dX9_request_234 rfl ?_
  refine X_iadd dX9_request_235 ?_
  refine X_iast sh_150 dX9_request_236 h (fun M5 h => ?_)
  refine X_aload_n (x := 149) dX9_request_237 rfl ?_
  refine X_get (v := .ref 150) kF_RX9_7 sh_149 rfl rfl dX9_request_238 ?_
  refine X_bipush 6 dX9_request_241 rfl ?_
  refine X_iald sh_150 dX9_request_243 h (fun h => ?_)
  refine X_iconst 1 dX9_request_244 rfl ?_
  refine X_isub dX9_request_245 ?_
  exact X_retI dX9_request_246 rfl (Nat.le_refl _) (Nat.le_refl _) h
def f_X9_request (M : xM) (a1 a2 a3 a4 a5 a6 : Int32) : Option (Int32 × xM) :=
  xb (f_X9_isOne M 3 a2) fun v6 =>
  if v6 = 0 then (
    some ((-1), M))
  else (
    xb (f_X9_in a1 0 7) fun v7 =>
    if v7 = 0 then (
      some ((-2), M))
    else (
      xb (f_X9_isExcerpt M a2 a3 a4) fun v8 =>
      if v8 = 0 then (
        some ((-2), M))
      else (
        xb (f_X9_in a5 0 2) fun v9 =>
        if v9 = 0 then (
          some ((-2), M))
        else (
          xb (f_X9_in a6 1 100) fun v10 =>
          if v10 = 0 then (
            some ((-2), M))
          else (
            xgd (xin 6 916) <|
            if (M 150 (6 : Int32).toNatClampNeg) = 16 then (
              some ((-4), M))
            else (
              xb (f_X9_record M) fun M11 =>
              xgd (xin 6 916) <|
              xl (756 + (10 * (M11 150 (6 : Int32).toNatClampNeg))) fun v12 =>
              xgd (xin v12 916) <| xl (xw M11 150 v12.toNatClampNeg 0) fun M13 =>
              xgd (xin (v12 + 1) 916) <| xl (xw M13 150 (v12 + 1).toNatClampNeg a1) fun M14 =>
              xgd (xin (v12 + 2) 916) <| xl (xw M14 150 (v12 + 2).toNatClampNeg a2) fun M15 =>
              xgd (xin (v12 + 3) 916) <| xl (xw M15 150 (v12 + 3).toNatClampNeg a3) fun M16 =>
              xgd (xin (v12 + 4) 916) <| xl (xw M16 150 (v12 + 4).toNatClampNeg a4) fun M17 =>
              xgd (xin (v12 + 5) 916) <| xl (xw M17 150 (v12 + 5).toNatClampNeg a5) fun M18 =>
              xgd (xin (v12 + 6) 916) <| xl (xw M18 150 (v12 + 6).toNatClampNeg a6) fun M19 =>
              xgd (xin 0 916) <|
              if ((M19 150 (0 : Int32).toNatClampNeg) + 30) ≤ 9999 then (
                xgd (xin 0 916) <|
                f_X9_request_202 M19 a1 a2 a3 a4 a5 a6 v12 (v12 + 7) ((M19 150 (0 : Int32).toNatClampNeg) + 30))
              else (
                f_X9_request_202 M19 a1 a2 a3 a4 a5 a6 v12 (v12 + 7) 9999)))))))
set_option maxHeartbeats 1000000 in
theorem x_X9_request {ξ : xX} {M : xM} {a1 a2 a3 a4 a5 a6 : Int32} {z : (Int32 × xM)} (h : f_X9_request M a1 a2 a3 a4 a5 a6 = some z) : X ξ mX9_request 0 [.ref 149, .int a1, .int a2, .int a3, .int a4, .int a5, .int a6] [] SH M 0 0 (xr (some (.int z.1)) SH z.2) := by
  rw [f_X9_request] at h
  refine X_aload_n (x := 149) dX9_request_0 rfl ?_
  refine X_iconst 3 dX9_request_1 rfl ?_
  refine X_iload_n (x := a2) dX9_request_2 rfl ?_
  refine X_vP (μ' := mX9_isOne) [.int 3, .int a2] [] kL_RX9_64 kM_X9_isOne rv_149 rfl rfl rfl dX9_request_3 h (fun _ hv => x_X9_isOne hv) (fun v6 h => ?_)
  refine X_if_ne 11 dX9_request_6 (by decide) h (fun h => ?_) (fun h => ?_)
  · refine X_iload_n (x := a1) dX9_request_11 rfl ?_
    refine X_iconst 0 dX9_request_12 rfl ?_
    refine X_bipush 7 dX9_request_13 rfl ?_
    refine X_sP (μ' := mX9_in) [.int a1, .int 0, .int 7] [] kL_RX9_42 kM_X9_in rfl rfl rfl dX9_request_15 h (fun _ hv => x_X9_in hv) (fun v7 h => ?_)
    refine X_if_eq 53 dX9_request_18 (by decide) h (fun h => ?_) (fun h => ?_)
    · refine X_bipush (-2) dX9_request_53 rfl ?_
      exact X_retI dX9_request_55 rfl (Nat.le_refl _) (Nat.le_refl _) h
    · refine X_aload_n (x := 149) dX9_request_21 rfl ?_
      refine X_iload_n (x := a2) dX9_request_22 rfl ?_
      refine X_iload_n (x := a3) dX9_request_23 rfl ?_
      refine X_iload (x := a4) dX9_request_24 rfl ?_
      refine X_vP (μ' := mX9_isExcerpt) [.int a2, .int a3, .int a4] [] kL_RX9_70 kM_X9_isExcerpt rv_149 rfl rfl rfl dX9_request_26 h (fun _ hv => x_X9_isExcerpt hv) (fun v8 h => ?_)
      refine X_if_eq 53 dX9_request_29 (by decide) h (fun h => ?_) (fun h => ?_)
      · refine X_bipush (-2) dX9_request_53 rfl ?_
        exact X_retI dX9_request_55 rfl (Nat.le_refl _) (Nat.le_refl _) h
      · refine X_iload (x := a5) dX9_request_32 rfl ?_
        refine X_iconst 0 dX9_request_34 rfl ?_
        refine X_iconst 2 dX9_request_35 rfl ?_
        refine X_sP (μ' := mX9_in) [.int a5, .int 0, .int 2] [] kL_RX9_42 kM_X9_in rfl rfl rfl dX9_request_36 h (fun _ hv => x_X9_in hv) (fun v9 h => ?_)
        refine X_if_eq 53 dX9_request_39 (by decide) h (fun h => ?_) (fun h => ?_)
        · refine X_bipush (-2) dX9_request_53 rfl ?_
          exact X_retI dX9_request_55 rfl (Nat.le_refl _) (Nat.le_refl _) h
        · refine X_iload (x := a6) dX9_request_42 rfl ?_
          refine X_iconst 1 dX9_request_44 rfl ?_
          refine X_bipush 100 dX9_request_45 rfl ?_
          refine X_sP (μ' := mX9_in) [.int a6, .int 1, .int 100] [] kL_RX9_42 kM_X9_in rfl rfl rfl dX9_request_47 h (fun _ hv => x_X9_in hv) (fun v10 h => ?_)
          refine X_if_ne 56 dX9_request_50 (by decide) h (fun h => ?_) (fun h => ?_)
          · refine X_aload_n (x := 149) dX9_request_56 rfl ?_
            refine X_get (v := .ref 150) kF_RX9_7 sh_149 rfl rfl dX9_request_57 ?_
            refine X_bipush 6 dX9_request_60 rfl ?_
            refine X_iald sh_150 dX9_request_62 h (fun h => ?_)
            refine X_bipush 16 dX9_request_63 rfl ?_
            refine X_icmp_ne 71 dX9_request_65 (by decide) h (fun h => ?_) (fun h => ?_)
            · refine X_aload_n (x := 149) dX9_request_71 rfl ?_
              refine X_vV (μ' := mX9_record) [] [] kL_RX9_54 kM_X9_record rv_149 rfl rfl rfl dX9_request_72 h (fun _ hv => x_X9_record hv) (fun M11 h => ?_)
              refine X_sipush 756 dX9_request_75 rfl ?_
              refine X_bipush 10 dX9_request_78 rfl ?_
              refine X_aload_n (x := 149) dX9_request_80 rfl ?_
              refine X_get (v := .ref 150) kF_RX9_7 sh_149 rfl rfl dX9_request_81 ?_
              refine X_bipush 6 dX9_request_84 rfl ?_
              refine X_iald sh_150 dX9_request_86 h (fun h => ?_)
              refine X_imul dX9_request_87 ?_
              refine X_iadd dX9_request_88 ?_
              refine X_istoreL (fun v12 => [.ref 149, .int a1, .int a2, .int a3, .int a4, .int a5, .int a6, .int v12]) dX9_request_89 (Nat.le_of_ble_eq_true rfl) (Nat.le_of_ble_eq_true rfl) (xcat1_of rfl) h (fun _ => rfl) (fun v12 h => ?_)
              refine X_aload_n (x := 149) dX9_request_91 rfl ?_
              refine X_get (v := .ref 150) kF_RX9_7 sh_149 rfl rfl dX9_request_92 ?_
              refine X_iload (x := v12) dX9_request_95 rfl ?_
              refine X_iconst 0 dX9_request_97 rfl ?_
              refine X_iast sh_150 dX9_request_98 h (fun M13 h => ?_)
              refine X_aload_n (x := 149) dX9_request_99 rfl ?_
              refine X_get (v := .ref 150) kF_RX9_7 sh_149 rfl rfl dX9_request_100 ?_
              refine X_iload (x := v12) dX9_request_103 rfl ?_
              refine X_iconst 1 dX9_request_105 rfl ?_
              refine X_iadd dX9_request_106 ?_
              refine X_iload_n (x := a1) dX9_request_107 rfl ?_
              refine X_iast sh_150 dX9_request_108 h (fun M14 h => ?_)
              refine X_aload_n (x := 149) dX9_request_109 rfl ?_
              refine X_get (v := .ref 150) kF_RX9_7 sh_149 rfl rfl dX9_request_110 ?_
              refine X_iload (x := v12) dX9_request_113 rfl ?_
              refine X_iconst 2 dX9_request_115 rfl ?_
              refine X_iadd dX9_request_116 ?_
              refine X_iload_n (x := a2) dX9_request_117 rfl ?_
              refine X_iast sh_150 dX9_request_118 h (fun M15 h => ?_)
              refine X_aload_n (x := 149) dX9_request_119 rfl ?_
              refine X_get (v := .ref 150) kF_RX9_7 sh_149 rfl rfl dX9_request_120 ?_
              refine X_iload (x := v12) dX9_request_123 rfl ?_
              refine X_iconst 3 dX9_request_125 rfl ?_
              refine X_iadd dX9_request_126 ?_
              refine X_iload_n (x := a3) dX9_request_127 rfl ?_
              refine X_iast sh_150 dX9_request_128 h (fun M16 h => ?_)
              refine X_aload_n (x := 149) dX9_request_129 rfl ?_
              refine X_get (v := .ref 150) kF_RX9_7 sh_149 rfl rfl dX9_request_130 ?_
              refine X_iload (x := v12) dX9_request_133 rfl ?_
              refine X_iconst 4 dX9_request_135 rfl ?_
              refine X_iadd dX9_request_136 ?_
              refine X_iload (x := a4) dX9_request_137 rfl ?_
              refine X_iast sh_150 dX9_request_139 h (fun M17 h => ?_)
              refine X_aload_n (x := 149) dX9_request_140 rfl ?_
              refine X_get (v := .ref 150) kF_RX9_7 sh_149 rfl rfl dX9_request_141 ?_
              refine X_iload (x := v12) dX9_request_144 rfl ?_
              refine X_iconst 5 dX9_request_146 rfl ?_
              refine X_iadd dX9_request_147 ?_
              refine X_iload (x := a5) dX9_request_148 rfl ?_
              refine X_iast sh_150 dX9_request_150 h (fun M18 h => ?_)
              refine X_aload_n (x := 149) dX9_request_151 rfl ?_
              refine X_get (v := .ref 150) kF_RX9_7 sh_149 rfl rfl dX9_request_152 ?_
              refine X_iload (x := v12) dX9_request_155 rfl ?_
              refine X_bipush 6 dX9_request_157 rfl ?_
              refine X_iadd dX9_request_159 ?_
              refine X_iload (x := a6) dX9_request_160 rfl ?_
              refine X_iast sh_150 dX9_request_162 h (fun M19 h => ?_)
              refine X_aload_n (x := 149) dX9_request_163 rfl ?_
              refine X_get (v := .ref 150) kF_RX9_7 sh_149 rfl rfl dX9_request_164 ?_
              refine X_iload (x := v12) dX9_request_167 rfl ?_
              refine X_bipush 7 dX9_request_169 rfl ?_
              refine X_iadd dX9_request_171 ?_
              refine X_aload_n (x := 149) dX9_request_172 rfl ?_
              refine X_get (v := .ref 150) kF_RX9_7 sh_149 rfl rfl dX9_request_173 ?_
              refine X_iconst 0 dX9_request_176 rfl ?_
              refine X_iald sh_150 dX9_request_177 h (fun h => ?_)
              refine X_bipush 30 dX9_request_178 rfl ?_
              refine X_iadd dX9_request_180 ?_
              refine X_sipush 9999 dX9_request_181 rfl ?_
              refine X_icmp_le 193 dX9_request_184 (by decide) h (fun h => ?_) (fun h => ?_)
              · refine X_aload_n (x := 149) dX9_request_193 rfl ?_
                refine X_get (v := .ref 150) kF_RX9_7 sh_149 rfl rfl dX9_request_194 ?_
                refine X_iconst 0 dX9_request_197 rfl ?_
                refine X_iald sh_150 dX9_request_198 h (fun h => ?_)
                refine X_bipush 30 dX9_request_199 rfl ?_
                refine X_iadd dX9_request_201 ?_
                exact x_X9_request_202 h
              · refine X_sipush 9999 dX9_request_187 rfl ?_
                refine X_goto 202 dX9_request_190 (by decide) ?_
                exact x_X9_request_202 h
            · refine X_bipush (-4) dX9_request_68 rfl ?_
              exact X_retI dX9_request_70 rfl (Nat.le_refl _) (Nat.le_refl _) h
          · refine X_bipush (-2) dX9_request_53 rfl ?_
            exact X_retI dX9_request_55 rfl (Nat.le_refl _) (Nat.le_refl _) h
  · refine X_iconst (-1) dX9_request_9 rfl ?_
    exact X_retI dX9_request_10 rfl (Nat.le_refl _) (Nat.le_refl _) h
def f_X9_isOpen (M : xM) (a1 : Int32) : Option Int32 :=
  xgd (xin (756 + (10 * a1)) 916) <|
  if (M 150 (756 + (10 * a1)).toNatClampNeg) = 0 then (
    some 1)
  else (
    some 0)
set_option maxHeartbeats 1000000 in
theorem x_X9_isOpen {ξ : xX} {M : xM} {a1 : Int32} {z : Int32} (h : f_X9_isOpen M a1 = some z) : X ξ mX9_isOpen 0 [.ref 149, .int a1] [] SH M 0 0 (xr (some (.int z)) SH M) := by
  rw [f_X9_isOpen] at h
  refine X_aload_n (x := 149) dX9_isOpen_0 rfl ?_
  refine X_get (v := .ref 150) kF_RX9_7 sh_149 rfl rfl dX9_isOpen_1 ?_
  refine X_sipush 756 dX9_isOpen_4 rfl ?_
  refine X_bipush 10 dX9_isOpen_7 rfl ?_
  refine X_iload_n (x := a1) dX9_isOpen_9 rfl ?_
  refine X_imul dX9_isOpen_10 ?_
  refine X_iadd dX9_isOpen_11 ?_
  refine X_iald sh_150 dX9_isOpen_12 h (fun h => ?_)
  refine X_if_ne 20 dX9_isOpen_13 (by decide) h (fun h => ?_) (fun h => ?_)
  · refine X_iconst 0 dX9_isOpen_20 rfl ?_
    exact X_retLP (by decide) dX9_isOpen_21 rfl (Nat.le_refl _) (Nat.le_refl _) h
  · refine X_iconst 1 dX9_isOpen_16 rfl ?_
    refine X_goto 21 dX9_isOpen_17 (by decide) ?_
    exact X_retLP (by decide) dX9_isOpen_21 rfl (Nat.le_refl _) (Nat.le_refl _) h
def f_X9_inState_38 (M : xM) (k4 : Int32 → Int32 → Int32 → Option Int32) (i1 : Int32) (i2 : Int32) (i3 : Int32) (s0 : Int32) (s1 : Int32) : Option Int32 :=
  xl (s0 + s1) fun v5 =>
  xl (i3 + 1) fun v6 =>
  k4 i1 v5 v6
set_option maxHeartbeats 1000000 in
theorem x_X9_inState_38 {ξ : xX} {M : xM} {k4 : Int32 → Int32 → Int32 → Option Int32} {i1 : Int32} {i2 : Int32} {i3 : Int32} {s0 : Int32} {s1 : Int32} (hk4 : ∀ (j1 j2 j3 : Int32) (z : Int32), k4 j1 j2 j3 = some z → X ξ mX9_inState 4 [.ref 149, .int j1, .int j2, .int j3] [] SH M 0 0 (xr (some (.int z)) SH M)) {z : Int32} (h : f_X9_inState_38 M k4 i1 i2 i3 s0 s1 = some z) : X ξ mX9_inState 38 [.ref 149, .int i1, .int i2, .int i3] [.int s1, .int s0] SH M 0 0 (xr (some (.int z)) SH M) := by
  rw [f_X9_inState_38] at h
  refine X_iadd dX9_inState_38 ?_
  refine X_istoreL_n (fun v5 => [.ref 149, .int i1, .int v5, .int i3]) dX9_inState_39 (Nat.le_of_ble_eq_true rfl) (Nat.le_of_ble_eq_true rfl) (xcat1_of rfl) h (fun _ => rfl) (fun v5 h => ?_)
  refine X_iincL (x := i3) 1 (fun v6 => [.ref 149, .int i1, .int v5, .int v6]) dX9_inState_40 rfl rfl (Nat.le_of_ble_eq_true rfl) (xcat1_of rfl) h (fun _ => rfl) (fun v6 h => ?_)
  refine X_goto 4 dX9_inState_43 (by decide) ?_
  exact hk4 _ _ _ _ h
def f_X9_inState_4 (M : xM) : Nat → Int32 → Int32 → Int32 → Option Int32
  | 0, _, _, _ => none
  | fu + 1, i1, i2, i3 =>
    xgd (xin 6 916) <|
    if (M 150 (6 : Int32).toNatClampNeg) ≤ i3 then (
      some i2)
    else (
      xgd (xin (756 + (10 * i3)) 916) <|
      if (M 150 (756 + (10 * i3)).toNatClampNeg) = i1 then (
        f_X9_inState_38 M (f_X9_inState_4 M fu) i1 i2 i3 i2 1)
      else (
        f_X9_inState_38 M (f_X9_inState_4 M fu) i1 i2 i3 i2 0))
set_option maxHeartbeats 1000000 in
theorem x_X9_inState_4 {ξ : xX} {M : xM} : ∀ (fu : Nat) (i1 i2 i3 : Int32) (z : Int32), f_X9_inState_4 M fu i1 i2 i3 = some z → X ξ mX9_inState 4 [.ref 149, .int i1, .int i2, .int i3] [] SH M 0 0 (xr (some (.int z)) SH M) := by
  intro fu
  induction fu with
  | zero => intro i1 i2 i3 z h; rw [f_X9_inState_4] at h; cases h
  | succ fu ih =>
    intro i1 i2 i3 z h
    rw [f_X9_inState_4] at h
    refine X_iload_n (x := i3) dX9_inState_4 rfl ?_
    refine X_aload_n (x := 149) dX9_inState_5 rfl ?_
    refine X_get (v := .ref 150) kF_RX9_7 sh_149 rfl rfl dX9_inState_6 ?_
    refine X_bipush 6 dX9_inState_9 rfl ?_
    refine X_iald sh_150 dX9_inState_11 h (fun h => ?_)
    refine X_icmp_ge 46 dX9_inState_12 (by decide) h (fun h => ?_) (fun h => ?_)
    · refine X_iload_n (x := i2) dX9_inState_46 rfl ?_
      exact X_retP dX9_inState_47 rfl (Nat.le_refl _) (Nat.le_refl _) h
    · refine X_iload_n (x := i2) dX9_inState_15 rfl ?_
      refine X_aload_n (x := 149) dX9_inState_16 rfl ?_
      refine X_get (v := .ref 150) kF_RX9_7 sh_149 rfl rfl dX9_inState_17 ?_
      refine X_sipush 756 dX9_inState_20 rfl ?_
      refine X_bipush 10 dX9_inState_23 rfl ?_
      refine X_iload_n (x := i3) dX9_inState_25 rfl ?_
      refine X_imul dX9_inState_26 ?_
      refine X_iadd dX9_inState_27 ?_
      refine X_iald sh_150 dX9_inState_28 h (fun h => ?_)
      refine X_iload_n (x := i1) dX9_inState_29 rfl ?_
      refine X_icmp_ne 37 dX9_inState_30 (by decide) h (fun h => ?_) (fun h => ?_)
      · refine X_iconst 0 dX9_inState_37 rfl ?_
        exact x_X9_inState_38 ih h
      · refine X_iconst 1 dX9_inState_33 rfl ?_
        refine X_goto 38 dX9_inState_34 (by decide) ?_
        exact x_X9_inState_38 ih h
def f_X9_inState (M : xM) (a1 : Int32) : Option Int32 :=
  xl (0 : Int32) fun v7 =>
  xl (0 : Int32) fun v8 =>
  f_X9_inState_4 M xFU a1 v7 v8
set_option maxHeartbeats 1000000 in
theorem x_X9_inState {ξ : xX} {M : xM} {a1 : Int32} {z : Int32} (h : f_X9_inState M a1 = some z) : X ξ mX9_inState 0 [.ref 149, .int a1] [] SH M 0 0 (xr (some (.int z)) SH M) := by
  rw [f_X9_inState] at h
  refine X_iconst 0 dX9_inState_0 rfl ?_
  refine X_istoreL_n (fun v7 => [.ref 149, .int a1, .int v7]) dX9_inState_1 (Nat.le_of_ble_eq_true rfl) (Nat.le_of_ble_eq_true rfl) (xcat1_of rfl) h (fun _ => rfl) (fun v7 h => ?_)
  refine X_iconst 0 dX9_inState_2 rfl ?_
  refine X_istoreL_n (fun v8 => [.ref 149, .int a1, .int v7, .int v8]) dX9_inState_3 (Nat.le_of_ble_eq_true rfl) (Nat.le_of_ble_eq_true rfl) (xcat1_of rfl) h (fun _ => rfl) (fun v8 h => ?_)
  exact x_X9_inState_4 _ _ _ _ _ h
def f_X9_setDue (M : xM) (a1 a2 : Int32) : Option (Int32 × xM) :=
  xb (f_X9_isOne M 6 a1) fun v2 =>
  if v2 = 0 then (
    some ((-1), M))
  else (
    xgd (xin 0 916) <|
    xb (f_X9_in a2 (M 150 (0 : Int32).toNatClampNeg) 9999) fun v3 =>
    if v3 = 0 then (
      some ((-2), M))
    else (
      xb (f_X9_isOpen M a1) fun v4 =>
      if v4 = 0 then (
        some ((-3), M))
      else (
        xb (f_X9_record M) fun M5 =>
        xgd (xin ((756 + (10 * a1)) + 7) 916) <|
        xl (M5 150 ((756 + (10 * a1)) + 7).toNatClampNeg) fun v6 =>
        xgd (xin ((756 + (10 * a1)) + 7) 916) <| xl (xw M5 150 ((756 + (10 * a1)) + 7).toNatClampNeg a2) fun M7 =>
        some (v6, M7))))
set_option maxHeartbeats 1000000 in
theorem x_X9_setDue {ξ : xX} {M : xM} {a1 a2 : Int32} {z : (Int32 × xM)} (h : f_X9_setDue M a1 a2 = some z) : X ξ mX9_setDue 0 [.ref 149, .int a1, .int a2] [] SH M 0 0 (xr (some (.int z.1)) SH z.2) := by
  rw [f_X9_setDue] at h
  refine X_aload_n (x := 149) dX9_setDue_0 rfl ?_
  refine X_bipush 6 dX9_setDue_1 rfl ?_
  refine X_iload_n (x := a1) dX9_setDue_3 rfl ?_
  refine X_vP (μ' := mX9_isOne) [.int 6, .int a1] [] kL_RX9_64 kM_X9_isOne rv_149 rfl rfl rfl dX9_setDue_4 h (fun _ hv => x_X9_isOne hv) (fun v2 h => ?_)
  refine X_if_ne 12 dX9_setDue_7 (by decide) h (fun h => ?_) (fun h => ?_)
  · refine X_iload_n (x := a2) dX9_setDue_12 rfl ?_
    refine X_aload_n (x := 149) dX9_setDue_13 rfl ?_
    refine X_get (v := .ref 150) kF_RX9_7 sh_149 rfl rfl dX9_setDue_14 ?_
    refine X_iconst 0 dX9_setDue_17 rfl ?_
    refine X_iald sh_150 dX9_setDue_18 h (fun h => ?_)
    refine X_sipush 9999 dX9_setDue_19 rfl ?_
    refine X_sP (μ' := mX9_in) [.int a2, .int (M 150 (0 : Int32).toNatClampNeg), .int 9999] [] kL_RX9_42 kM_X9_in rfl rfl rfl dX9_setDue_22 h (fun _ hv => x_X9_in hv) (fun v3 h => ?_)
    refine X_if_ne 31 dX9_setDue_25 (by decide) h (fun h => ?_) (fun h => ?_)
    · refine X_aload_n (x := 149) dX9_setDue_31 rfl ?_
      refine X_iload_n (x := a1) dX9_setDue_32 rfl ?_
      refine X_vP (μ' := mX9_isOpen) [.int a1] [] kL_RX9_132 kM_X9_isOpen rv_149 rfl rfl rfl dX9_setDue_33 h (fun _ hv => x_X9_isOpen hv) (fun v4 h => ?_)
      refine X_if_ne 42 dX9_setDue_36 (by decide) h (fun h => ?_) (fun h => ?_)
      · refine X_aload_n (x := 149) dX9_setDue_42 rfl ?_
        refine X_vV (μ' := mX9_record) [] [] kL_RX9_54 kM_X9_record rv_149 rfl rfl rfl dX9_setDue_43 h (fun _ hv => x_X9_record hv) (fun M5 h => ?_)
        refine X_aload_n (x := 149) dX9_setDue_46 rfl ?_
        refine X_get (v := .ref 150) kF_RX9_7 sh_149 rfl rfl dX9_setDue_47 ?_
        refine X_sipush 756 dX9_setDue_50 rfl ?_
        refine X_bipush 10 dX9_setDue_53 rfl ?_
        refine X_iload_n (x := a1) dX9_setDue_55 rfl ?_
        refine X_imul dX9_setDue_56 ?_
        refine X_iadd dX9_setDue_57 ?_
        refine X_bipush 7 dX9_setDue_58 rfl ?_
        refine X_iadd dX9_setDue_60 ?_
        refine X_iald sh_150 dX9_setDue_61 h (fun h => ?_)
        refine X_istoreL_n (fun v6 => [.ref 149, .int a1, .int a2, .int v6]) dX9_setDue_62 (Nat.le_of_ble_eq_true rfl) (Nat.le_of_ble_eq_true rfl) (xcat1_of rfl) h (fun _ => rfl) (fun v6 h => ?_)
        refine X_aload_n (x := 149) dX9_setDue_63 rfl ?_
        refine X_get (v := .ref 150) kF_RX9_7 sh_149 rfl rfl dX9_setDue_64 ?_
        refine X_sipush 756 dX9_setDue_67 rfl ?_
        refine X_bipush 10 dX9_setDue_70 rfl ?_
        refine X_iload_n (x := a1) dX9_setDue_72 rfl ?_
        refine X_imul dX9_setDue_73 ?_
        refine X_iadd dX9_setDue_74 ?_
        refine X_bipush 7 dX9_setDue_75 rfl ?_
        refine X_iadd dX9_setDue_77 ?_
        refine X_iload_n (x := a2) dX9_setDue_78 rfl ?_
        refine X_iast sh_150 dX9_setDue_79 h (fun M7 h => ?_)
        refine X_iload_n (x := v6) dX9_setDue_80 rfl ?_
        exact X_retI dX9_setDue_81 rfl (Nat.le_refl _) (Nat.le_refl _) h
      · refine X_bipush (-3) dX9_setDue_39 rfl ?_
        exact X_retI dX9_setDue_41 rfl (Nat.le_refl _) (Nat.le_refl _) h
    · refine X_bipush (-2) dX9_setDue_28 rfl ?_
      exact X_retI dX9_setDue_30 rfl (Nat.le_refl _) (Nat.le_refl _) h
  · refine X_iconst (-1) dX9_setDue_10 rfl ?_
    exact X_retI dX9_setDue_11 rfl (Nat.le_refl _) (Nat.le_refl _) h
def f_X9_withdraw (M : xM) (a1 : Int32) : Option (Int32 × xM) :=
  xb (f_X9_isOne M 6 a1) fun v1 =>
  if v1 = 0 then (
    some ((-1), M))
  else (
    xb (f_X9_isOpen M a1) fun v2 =>
    if v2 = 0 then (
      some ((-3), M))
    else (
      xb (f_X9_record M) fun M3 =>
      xgd (xin (756 + (10 * a1)) 916) <| xl (xw M3 150 (756 + (10 * a1)).toNatClampNeg 3) fun M4 =>
      xb (f_X9_inState M4 0) fun v5 =>
      some (v5, M4)))
set_option maxHeartbeats 1000000 in
theorem x_X9_withdraw {ξ : xX} {M : xM} {a1 : Int32} {z : (Int32 × xM)} (h : f_X9_withdraw M a1 = some z) : X ξ mX9_withdraw 0 [.ref 149, .int a1] [] SH M 0 0 (xr (some (.int z.1)) SH z.2) := by
  rw [f_X9_withdraw] at h
  refine X_aload_n (x := 149) dX9_withdraw_0 rfl ?_
  refine X_bipush 6 dX9_withdraw_1 rfl ?_
  refine X_iload_n (x := a1) dX9_withdraw_3 rfl ?_
  refine X_vP (μ' := mX9_isOne) [.int 6, .int a1] [] kL_RX9_64 kM_X9_isOne rv_149 rfl rfl rfl dX9_withdraw_4 h (fun _ hv => x_X9_isOne hv) (fun v1 h => ?_)
  refine X_if_ne 12 dX9_withdraw_7 (by decide) h (fun h => ?_) (fun h => ?_)
  · refine X_aload_n (x := 149) dX9_withdraw_12 rfl ?_
    refine X_iload_n (x := a1) dX9_withdraw_13 rfl ?_
    refine X_vP (μ' := mX9_isOpen) [.int a1] [] kL_RX9_132 kM_X9_isOpen rv_149 rfl rfl rfl dX9_withdraw_14 h (fun _ hv => x_X9_isOpen hv) (fun v2 h => ?_)
    refine X_if_ne 23 dX9_withdraw_17 (by decide) h (fun h => ?_) (fun h => ?_)
    · refine X_aload_n (x := 149) dX9_withdraw_23 rfl ?_
      refine X_vV (μ' := mX9_record) [] [] kL_RX9_54 kM_X9_record rv_149 rfl rfl rfl dX9_withdraw_24 h (fun _ hv => x_X9_record hv) (fun M3 h => ?_)
      refine X_aload_n (x := 149) dX9_withdraw_27 rfl ?_
      refine X_get (v := .ref 150) kF_RX9_7 sh_149 rfl rfl dX9_withdraw_28 ?_
      refine X_sipush 756 dX9_withdraw_31 rfl ?_
      refine X_bipush 10 dX9_withdraw_34 rfl ?_
      refine X_iload_n (x := a1) dX9_withdraw_36 rfl ?_
      refine X_imul dX9_withdraw_37 ?_
      refine X_iadd dX9_withdraw_38 ?_
      refine X_iconst 3 dX9_withdraw_39 rfl ?_
      refine X_iast sh_150 dX9_withdraw_40 h (fun M4 h => ?_)
      refine X_aload_n (x := 149) dX9_withdraw_41 rfl ?_
      refine X_iconst 0 dX9_withdraw_42 rfl ?_
      refine X_vP (μ' := mX9_inState) [.int 0] [] kL_RX9_136 kM_X9_inState rv_149 rfl rfl rfl dX9_withdraw_43 h (fun _ hv => x_X9_inState hv) (fun v5 h => ?_)
      exact X_retI dX9_withdraw_46 rfl (Nat.le_refl _) (Nat.le_refl _) h
    · refine X_bipush (-3) dX9_withdraw_20 rfl ?_
      exact X_retI dX9_withdraw_22 rfl (Nat.le_refl _) (Nat.le_refl _) h
  · refine X_iconst (-1) dX9_withdraw_10 rfl ?_
    exact X_retI dX9_withdraw_11 rfl (Nat.le_refl _) (Nat.le_refl _) h
def f_X9_reasonAgainstAnswer (M : xM) (a1 a2 : Int32) : Option Int32 :=
  xl (756 + (10 * a1)) fun v2 =>
  xb (f_X9_isOpen M a1) fun v3 =>
  if v3 = 0 then (
    some 6)
  else (
    if 0 ≤ a2 then (
      xgd (xin (v2 + 2) 916) <|
      xb (f_X9_qualityIn M a2 (M 150 (v2 + 2).toNatClampNeg)) fun v4 =>
      xgd (xin (v2 + 6) 916) <|
      if (M 150 (v2 + 6).toNatClampNeg) ≤ v4 then (
        xgd (xin (v2 + 1) 916) <|
        xgd (xin (v2 + 2) 916) <|
        xgd (xin (v2 + 3) 916) <|
        xgd (xin (v2 + 4) 916) <|
        xgd (xin (v2 + 5) 916) <|
        xb (f_X9_lacks M (M 150 (v2 + 1).toNatClampNeg) (M 150 (v2 + 2).toNatClampNeg) (M 150 (v2 + 3).toNatClampNeg) (M 150 (v2 + 4).toNatClampNeg) (M 150 (v2 + 5).toNatClampNeg)) fun v5 =>
        if v5 = 0 then (
          some 0)
        else (
          some 9))
      else (
        some 8))
    else (
      some 7))
set_option maxHeartbeats 1000000 in
theorem x_X9_reasonAgainstAnswer {ξ : xX} {M : xM} {a1 a2 : Int32} {z : Int32} (h : f_X9_reasonAgainstAnswer M a1 a2 = some z) : X ξ mX9_reasonAgainstAnswer 0 [.ref 149, .int a1, .int a2] [] SH M 0 0 (xr (some (.int z)) SH M) := by
  rw [f_X9_reasonAgainstAnswer] at h
  refine X_sipush 756 dX9_reasonAgainstAnswer_0 rfl ?_
  refine X_bipush 10 dX9_reasonAgainstAnswer_3 rfl ?_
  refine X_iload_n (x := a1) dX9_reasonAgainstAnswer_5 rfl ?_
  refine X_imul dX9_reasonAgainstAnswer_6 ?_
  refine X_iadd dX9_reasonAgainstAnswer_7 ?_
  refine X_istoreL_n (fun v2 => [.ref 149, .int a1, .int a2, .int v2]) dX9_reasonAgainstAnswer_8 (Nat.le_of_ble_eq_true rfl) (Nat.le_of_ble_eq_true rfl) (xcat1_of rfl) h (fun _ => rfl) (fun v2 h => ?_)
  refine X_aload_n (x := 149) dX9_reasonAgainstAnswer_9 rfl ?_
  refine X_iload_n (x := a1) dX9_reasonAgainstAnswer_10 rfl ?_
  refine X_vP (μ' := mX9_isOpen) [.int a1] [] kL_RX9_132 kM_X9_isOpen rv_149 rfl rfl rfl dX9_reasonAgainstAnswer_11 h (fun _ hv => x_X9_isOpen hv) (fun v3 h => ?_)
  refine X_if_ne 20 dX9_reasonAgainstAnswer_14 (by decide) h (fun h => ?_) (fun h => ?_)
  · refine X_iload_n (x := a2) dX9_reasonAgainstAnswer_20 rfl ?_
    refine X_if_ge 27 dX9_reasonAgainstAnswer_21 (by decide) h (fun h => ?_) (fun h => ?_)
    · refine X_aload_n (x := 149) dX9_reasonAgainstAnswer_27 rfl ?_
      refine X_iload_n (x := a2) dX9_reasonAgainstAnswer_28 rfl ?_
      refine X_aload_n (x := 149) dX9_reasonAgainstAnswer_29 rfl ?_
      refine X_get (v := .ref 150) kF_RX9_7 sh_149 rfl rfl dX9_reasonAgainstAnswer_30 ?_
      refine X_iload_n (x := v2) dX9_reasonAgainstAnswer_33 rfl ?_
      refine X_iconst 2 dX9_reasonAgainstAnswer_34 rfl ?_
      refine X_iadd dX9_reasonAgainstAnswer_35 ?_
      refine X_iald sh_150 dX9_reasonAgainstAnswer_36 h (fun h => ?_)
      refine X_vP (μ' := mX9_qualityIn) [.int a2, .int (M 150 (v2 + 2).toNatClampNeg)] [] kL_RX9_120 kM_X9_qualityIn rv_149 rfl rfl rfl dX9_reasonAgainstAnswer_37 h (fun _ hv => x_X9_qualityIn hv) (fun v4 h => ?_)
      refine X_aload_n (x := 149) dX9_reasonAgainstAnswer_40 rfl ?_
      refine X_get (v := .ref 150) kF_RX9_7 sh_149 rfl rfl dX9_reasonAgainstAnswer_41 ?_
      refine X_iload_n (x := v2) dX9_reasonAgainstAnswer_44 rfl ?_
      refine X_bipush 6 dX9_reasonAgainstAnswer_45 rfl ?_
      refine X_iadd dX9_reasonAgainstAnswer_47 ?_
      refine X_iald sh_150 dX9_reasonAgainstAnswer_48 h (fun h => ?_)
      refine X_icmp_ge 55 dX9_reasonAgainstAnswer_49 (by decide) h (fun h => ?_) (fun h => ?_)
      · refine X_aload_n (x := 149) dX9_reasonAgainstAnswer_55 rfl ?_
        refine X_aload_n (x := 149) dX9_reasonAgainstAnswer_56 rfl ?_
        refine X_get (v := .ref 150) kF_RX9_7 sh_149 rfl rfl dX9_reasonAgainstAnswer_57 ?_
        refine X_iload_n (x := v2) dX9_reasonAgainstAnswer_60 rfl ?_
        refine X_iconst 1 dX9_reasonAgainstAnswer_61 rfl ?_
        refine X_iadd dX9_reasonAgainstAnswer_62 ?_
        refine X_iald sh_150 dX9_reasonAgainstAnswer_63 h (fun h => ?_)
        refine X_aload_n (x := 149) dX9_reasonAgainstAnswer_64 rfl ?_
        refine X_get (v := .ref 150) kF_RX9_7 sh_149 rfl rfl dX9_reasonAgainstAnswer_65 ?_
        refine X_iload_n (x := v2) dX9_reasonAgainstAnswer_68 rfl ?_
        refine X_iconst 2 dX9_reasonAgainstAnswer_69 rfl ?_
        refine X_iadd dX9_reasonAgainstAnswer_70 ?_
        refine X_iald sh_150 dX9_reasonAgainstAnswer_71 h (fun h => ?_)
        refine X_aload_n (x := 149) dX9_reasonAgainstAnswer_72 rfl ?_
        refine X_get (v := .ref 150) kF_RX9_7 sh_149 rfl rfl dX9_reasonAgainstAnswer_73 ?_
        refine X_iload_n (x := v2) dX9_reasonAgainstAnswer_76 rfl ?_
        refine X_iconst 3 dX9_reasonAgainstAnswer_77 rfl ?_
        refine X_iadd dX9_reasonAgainstAnswer_78 ?_
        refine X_iald sh_150 dX9_reasonAgainstAnswer_79 h (fun h => ?_)
        refine X_aload_n (x := 149) dX9_reasonAgainstAnswer_80 rfl ?_
        refine X_get (v := .ref 150) kF_RX9_7 sh_149 rfl rfl dX9_reasonAgainstAnswer_81 ?_
        refine X_iload_n (x := v2) dX9_reasonAgainstAnswer_84 rfl ?_
        refine X_iconst 4 dX9_reasonAgainstAnswer_85 rfl ?_
        refine X_iadd dX9_reasonAgainstAnswer_86 ?_
        refine X_iald sh_150 dX9_reasonAgainstAnswer_87 h (fun h => ?_)
        refine X_aload_n (x := 149) dX9_reasonAgainstAnswer_88 rfl ?_
        refine X_get (v := .ref 150) kF_RX9_7 sh_149 rfl rfl dX9_reasonAgainstAnswer_89 ?_
        refine X_iload_n (x := v2) dX9_reasonAgainstAnswer_92 rfl ?_
        refine X_iconst 5 dX9_reasonAgainstAnswer_93 rfl ?_
        refine X_iadd dX9_reasonAgainstAnswer_94 ?_
        refine X_iald sh_150 dX9_reasonAgainstAnswer_95 h (fun h => ?_)
        refine X_vP (μ' := mX9_lacks) [.int (M 150 (v2 + 1).toNatClampNeg), .int (M 150 (v2 + 2).toNatClampNeg), .int (M 150 (v2 + 3).toNatClampNeg), .int (M 150 (v2 + 4).toNatClampNeg), .int (M 150 (v2 + 5).toNatClampNeg)] [] kL_RX9_139 kM_X9_lacks rv_149 rfl rfl rfl dX9_reasonAgainstAnswer_96 h (fun _ hv => x_X9_lacks hv) (fun v5 h => ?_)
        refine X_if_eq 107 dX9_reasonAgainstAnswer_99 (by decide) h (fun h => ?_) (fun h => ?_)
        · refine X_iconst 0 dX9_reasonAgainstAnswer_107 rfl ?_
          exact X_retP dX9_reasonAgainstAnswer_108 rfl (Nat.le_refl _) (Nat.le_refl _) h
        · refine X_bipush 9 dX9_reasonAgainstAnswer_102 rfl ?_
          refine X_goto 108 dX9_reasonAgainstAnswer_104 (by decide) ?_
          exact X_retP dX9_reasonAgainstAnswer_108 rfl (Nat.le_refl _) (Nat.le_refl _) h
      · refine X_bipush 8 dX9_reasonAgainstAnswer_52 rfl ?_
        exact X_retP dX9_reasonAgainstAnswer_54 rfl (Nat.le_refl _) (Nat.le_refl _) h
    · refine X_bipush 7 dX9_reasonAgainstAnswer_24 rfl ?_
      exact X_retP dX9_reasonAgainstAnswer_26 rfl (Nat.le_refl _) (Nat.le_refl _) h
  · refine X_bipush 6 dX9_reasonAgainstAnswer_17 rfl ?_
    exact X_retP dX9_reasonAgainstAnswer_19 rfl (Nat.le_refl _) (Nat.le_refl _) h
def f_X9_answers_76 : Nat → xM → Int32 → Int32 → Int32 → Int32 → Int32 → Int32 → Int32 → Option (Int32 × xM)
  | 0, _, _, _, _, _, _, _, _ => none
  | fu + 1, M, i1, i2, i3, i4, i5, i6, i7 =>
    xgd (xin ((84 + (5 * i4)) + 4) 916) <|
    if (M 150 ((84 + (5 * i4)) + 4).toNatClampNeg) ≤ i7 then (
      xgd (xin i3 916) <| xl (xw M 150 i3.toNatClampNeg 1) fun M8 =>
      xgd (xin (i3 + 8) 916) <| xl (xw M8 150 (i3 + 8).toNatClampNeg i5) fun M9 =>
      xgd (xin 7 916) <| xl (xw M9 150 (7 : Int32).toNatClampNeg 0) fun M10 =>
      some (i5, M10))
    else (
      xgd (xin (i3 + 3) 916) <|
      xgd (xin (i3 + 4) 916) <|
      xgd (xin (i3 + 1) 916) <|
      xb (f_X9_shared M i4 i7 (M 150 (i3 + 3).toNatClampNeg) (M 150 (i3 + 4).toNatClampNeg) (M 150 (i3 + 1).toNatClampNeg)) fun v11 =>
      xgd (xin (i3 + 5) 916) <|
      xb (f_X9_price (M 150 (i3 + 5).toNatClampNeg)) fun v12 =>
      xl (v11 * v12) fun v13 =>
      xgd (xin (((164 + (16 * i4)) + (4 * i7)) + 2) 916) <|
      xgd (xin (8 + (M 150 (((164 + (16 * i4)) + (4 * i7)) + 2).toNatClampNeg)) 916) <|
      xgd (xin (8 + (M 150 (((164 + (16 * i4)) + (4 * i7)) + 2).toNatClampNeg)) 916) <| xl (xw M 150 (8 + (M 150 (((164 + (16 * i4)) + (4 * i7)) + 2).toNatClampNeg)).toNatClampNeg ((M 150 (8 + (M 150 (((164 + (16 * i4)) + (4 * i7)) + 2).toNatClampNeg)).toNatClampNeg) + v13)) fun M14 =>
      xgd (xin (i3 + 1) 916) <|
      xgd (xin (16 + (M14 150 (i3 + 1).toNatClampNeg)) 916) <|
      xgd (xin (16 + (M14 150 (i3 + 1).toNatClampNeg)) 916) <| xl (xw M14 150 (16 + (M14 150 (i3 + 1).toNatClampNeg)).toNatClampNeg ((M14 150 (16 + (M14 150 (i3 + 1).toNatClampNeg)).toNatClampNeg) + v13)) fun M15 =>
      xgd (xin (i3 + 9) 916) <|
      xgd (xin (i3 + 9) 916) <| xl (xw M15 150 (i3 + 9).toNatClampNeg ((M15 150 (i3 + 9).toNatClampNeg) + v13)) fun M16 =>
      xl (i7 + 1) fun v17 =>
      (f_X9_answers_76 fu) M16 i1 i2 i3 i4 i5 i6 v17)
set_option maxHeartbeats 1000000 in
theorem x_X9_answers_76 {ξ : xX} : ∀ (fu : Nat) (M : xM) (i1 i2 i3 i4 i5 i6 i7 : Int32) (z : (Int32 × xM)), f_X9_answers_76 fu M i1 i2 i3 i4 i5 i6 i7 = some z → X ξ mX9_answers 76 [.ref 149, .int i1, .int i2, .int i3, .int i4, .int i5, .int i6, .int i7] [] SH M 0 0 (xr (some (.int z.1)) SH z.2) := by
  intro fu
  induction fu with
  | zero => intro M i1 i2 i3 i4 i5 i6 i7 z h; rw [f_X9_answers_76] at h; cases h
  | succ fu ih =>
    intro M i1 i2 i3 i4 i5 i6 i7 z h
    rw [f_X9_answers_76] at h
    refine X_iload (x := i7) dX9_answers_76 rfl ?_
    refine X_aload_n (x := 149) dX9_answers_78 rfl ?_
    refine X_get (v := .ref 150) kF_RX9_7 sh_149 rfl rfl dX9_answers_79 ?_
    refine X_bipush 84 dX9_answers_82 rfl ?_
    refine X_iconst 5 dX9_answers_84 rfl ?_
    refine X_iload (x := i4) dX9_answers_85 rfl ?_
    refine X_imul dX9_answers_87 ?_
    refine X_iadd dX9_answers_88 ?_
    refine X_iconst 4 dX9_answers_89 rfl ?_
    refine X_iadd dX9_answers_90 ?_
    refine X_iald sh_150 dX9_answers_91 h (fun h => ?_)
    refine X_icmp_ge 216 dX9_answers_92 (by decide) h (fun h => ?_) (fun h => ?_)
    · refine X_aload_n (x := 149) dX9_answers_216 rfl ?_
      refine X_get (v := .ref 150) kF_RX9_7 sh_149 rfl rfl dX9_answers_217 ?_
      refine X_iload_n (x := i3) dX9_answers_220 rfl ?_
      refine X_iconst 1 dX9_answers_221 rfl ?_
      refine X_iast sh_150 dX9_answers_222 h (fun M8 h => ?_)
      refine X_aload_n (x := 149) dX9_answers_223 rfl ?_
      refine X_get (v := .ref 150) kF_RX9_7 sh_149 rfl rfl dX9_answers_224 ?_
      refine X_iload_n (x := i3) dX9_answers_227 rfl ?_
      refine X_bipush 8 dX9_answers_228 rfl ?_
      refine X_iadd dX9_answers_230 ?_
      refine X_iload (x := i5) dX9_answers_231 rfl ?_
      refine X_iast sh_150 dX9_answers_233 h (fun M9 h => ?_)
      refine X_aload_n (x := 149) dX9_answers_234 rfl ?_
      refine X_get (v := .ref 150) kF_RX9_7 sh_149 rfl rfl dX9_answers_235 ?_
      refine X_bipush 7 dX9_answers_238 rfl ?_
      refine X_iconst 0 dX9_answers_240 rfl ?_
      refine X_iast sh_150 dX9_answers_241 h (fun M10 h => ?_)
      refine X_iload (x := i5) dX9_answers_242 rfl ?_
      exact X_retI dX9_answers_244 rfl (Nat.le_refl _) (Nat.le_refl _) h
    · refine X_aload_n (x := 149) dX9_answers_95 rfl ?_
      refine X_iload (x := i4) dX9_answers_96 rfl ?_
      refine X_iload (x := i7) dX9_answers_98 rfl ?_
      refine X_aload_n (x := 149) dX9_answers_100 rfl ?_
      refine X_get (v := .ref 150) kF_RX9_7 sh_149 rfl rfl dX9_answers_101 ?_
      refine X_iload_n (x := i3) dX9_answers_104 rfl ?_
      refine X_iconst 3 dX9_answers_105 rfl ?_
      refine X_iadd dX9_answers_106 ?_
      refine X_iald sh_150 dX9_answers_107 h (fun h => ?_)
      refine X_aload_n (x := 149) dX9_answers_108 rfl ?_
      refine X_get (v := .ref 150) kF_RX9_7 sh_149 rfl rfl dX9_answers_109 ?_
      refine X_iload_n (x := i3) dX9_answers_112 rfl ?_
      refine X_iconst 4 dX9_answers_113 rfl ?_
      refine X_iadd dX9_answers_114 ?_
      refine X_iald sh_150 dX9_answers_115 h (fun h => ?_)
      refine X_aload_n (x := 149) dX9_answers_116 rfl ?_
      refine X_get (v := .ref 150) kF_RX9_7 sh_149 rfl rfl dX9_answers_117 ?_
      refine X_iload_n (x := i3) dX9_answers_120 rfl ?_
      refine X_iconst 1 dX9_answers_121 rfl ?_
      refine X_iadd dX9_answers_122 ?_
      refine X_iald sh_150 dX9_answers_123 h (fun h => ?_)
      refine X_vP (μ' := mX9_shared) [.int i4, .int i7, .int (M 150 (i3 + 3).toNatClampNeg), .int (M 150 (i3 + 4).toNatClampNeg), .int (M 150 (i3 + 1).toNatClampNeg)] [] kL_RX9_123 kM_X9_shared rv_149 rfl rfl rfl dX9_answers_124 h (fun _ hv => x_X9_shared hv) (fun v11 h => ?_)
      refine X_aload_n (x := 149) dX9_answers_127 rfl ?_
      refine X_get (v := .ref 150) kF_RX9_7 sh_149 rfl rfl dX9_answers_128 ?_
      refine X_iload_n (x := i3) dX9_answers_131 rfl ?_
      refine X_iconst 5 dX9_answers_132 rfl ?_
      refine X_iadd dX9_answers_133 ?_
      refine X_iald sh_150 dX9_answers_134 h (fun h => ?_)
      refine X_sP (μ' := mX9_price) [.int (M 150 (i3 + 5).toNatClampNeg)] [.int v11] kL_RX9_129 kM_X9_price rfl rfl rfl dX9_answers_135 h (fun _ hv => x_X9_price hv) (fun v12 h => ?_)
      refine X_imul dX9_answers_138 ?_
      refine X_istoreL (fun v13 => [.ref 149, .int i1, .int i2, .int i3, .int i4, .int i5, .int i6, .int i7, .int v13]) dX9_answers_139 (Nat.le_of_ble_eq_true rfl) (Nat.le_of_ble_eq_true rfl) (xcat1_of rfl) h (fun _ => rfl) (fun v13 h => ?_)
      refine X_aload_n (x := 149) dX9_answers_141 rfl ?_
      refine X_get (v := .ref 150) kF_RX9_7 sh_149 rfl rfl dX9_answers_142 ?_
      refine X_bipush 8 dX9_answers_145 rfl ?_
      refine X_aload_n (x := 149) dX9_answers_147 rfl ?_
      refine X_get (v := .ref 150) kF_RX9_7 sh_149 rfl rfl dX9_answers_148 ?_
      refine X_sipush 164 dX9_answers_151 rfl ?_
      refine X_bipush 16 dX9_answers_154 rfl ?_
      refine X_iload (x := i4) dX9_answers_156 rfl ?_
      refine X_imul dX9_answers_158 ?_
      refine X_iadd dX9_answers_159 ?_
      refine X_iconst 4 dX9_answers_160 rfl ?_
      refine X_iload (x := i7) dX9_answers_161 rfl ?_
      refine X_imul dX9_answers_163 ?_
      refine X_iadd dX9_answers_164 ?_
      refine X_iconst 2 dX9_answers_165 rfl ?_
      refine X_iadd dX9_answers_166 ?_
      refine X_iald sh_150 dX9_answers_167 h (fun h => ?_)
      refine X_iadd dX9_answers_168 ?_
      refine X_dup2 dX9_answers_169 rfl rfl ?_
      refine X_iald sh_150 dX9_answers_170 h (fun h => ?_)
      refine X_iload (x := v13) dX9_answers_171 rfl ?_
      refine X_iadd dX9_answers_173 ?_
      refine X_iast sh_150 dX9_answers_174 h (fun M14 h => ?_)
      refine X_aload_n (x := 149) dX9_answers_175 rfl ?_
      refine X_get (v := .ref 150) kF_RX9_7 sh_149 rfl rfl dX9_answers_176 ?_
      refine X_bipush 16 dX9_answers_179 rfl ?_
      refine X_aload_n (x := 149) dX9_answers_181 rfl ?_
      refine X_get (v := .ref 150) kF_RX9_7 sh_149 rfl rfl dX9_answers_182 ?_
      refine X_iload_n (x := i3) dX9_answers_185 rfl ?_
      refine X_iconst 1 dX9_answers_186 rfl ?_
      refine X_iadd dX9_answers_187 ?_
      refine X_iald sh_150 dX9_answers_188 h (fun h => ?_)
      refine X_iadd dX9_answers_189 ?_
      refine X_dup2 dX9_answers_190 rfl rfl ?_
      refine X_iald sh_150 dX9_answers_191 h (fun h => ?_)
      refine X_iload (x := v13) dX9_answers_192 rfl ?_
      refine X_iadd dX9_answers_194 ?_
      refine X_iast sh_150 dX9_answers_195 h (fun M15 h => ?_)
      refine X_aload_n (x := 149) dX9_answers_196 rfl ?_
      refine X_get (v := .ref 150) kF_RX9_7 sh_149 rfl rfl dX9_answers_197 ?_
      refine X_iload_n (x := i3) dX9_answers_200 rfl ?_
      refine X_bipush 9 dX9_answers_201 rfl ?_
      refine X_iadd dX9_answers_203 ?_
      refine X_dup2 dX9_answers_204 rfl rfl ?_
      refine X_iald sh_150 dX9_answers_205 h (fun h => ?_)
      refine X_iload (x := v13) dX9_answers_206 rfl ?_
      refine X_iadd dX9_answers_208 ?_
      refine X_iast sh_150 dX9_answers_209 h (fun M16 h => ?_)
      refine X_iincL (x := i7) 1 (fun v17 => [.ref 149, .int i1, .int i2, .int i3, .int i4, .int i5, .int i6, .int v17, .int v13]) dX9_answers_210 rfl rfl (Nat.le_of_ble_eq_true rfl) (xcat1_of rfl) h (fun _ => rfl) (fun v17 h => ?_)
      refine X_goto 76 dX9_answers_213 (by decide) ?_
      refine X_cut 8 ?_
      exact ih _ _ _ _ _ _ _ _ _ h
def f_X9_answers_73 (M : xM) (i1 : Int32) (i2 : Int32) (i3 : Int32) (i4 : Int32) (i5 : Int32) (i6 : Int32) : Option (Int32 × xM) :=
  xl (0 : Int32) fun v18 =>
  f_X9_answers_76 xFU M i1 i2 i3 i4 i5 i6 v18
set_option maxHeartbeats 1000000 in
theorem x_X9_answers_73 {ξ : xX} {M : xM} {i1 : Int32} {i2 : Int32} {i3 : Int32} {i4 : Int32} {i5 : Int32} {i6 : Int32} {z : (Int32 × xM)} (h : f_X9_answers_73 M i1 i2 i3 i4 i5 i6 = some z) : X ξ mX9_answers 73 [.ref 149, .int i1, .int i2, .int i3, .int i4, .int i5, .int i6] [] SH M 0 0 (xr (some (.int z.1)) SH z.2) := by
  rw [f_X9_answers_73] at h
  refine X_iconst 0 dX9_answers_73 rfl ?_
  refine X_istoreL (fun v18 => [.ref 149, .int i1, .int i2, .int i3, .int i4, .int i5, .int i6, .int v18]) dX9_answers_74 (Nat.le_of_ble_eq_true rfl) (Nat.le_of_ble_eq_true rfl) (xcat1_of rfl) h (fun _ => rfl) (fun v18 h => ?_)
  exact x_X9_answers_76 _ _ _ _ _ _ _ _ _ _ h
def f_X9_answers (M : xM) (a1 a2 : Int32) : Option (Int32 × xM) :=
  xb (f_X9_isOne M 6 a1) fun v19 =>
  if v19 = 0 then (
    some ((-1), M))
  else (
    xl (756 + (10 * a1)) fun v20 =>
    xgd (xin (v20 + 2) 916) <|
    xl (M 150 (v20 + 2).toNatClampNeg) fun v21 =>
    xb (f_X9_bestFor M v21) fun v22 =>
    xl v22 fun v23 =>
    xb (f_X9_reasonAgainstAnswer M a1 v23) fun v24 =>
    xl v24 fun v25 =>
    if v25 ≤ 0 then (
      if a2 = 0 then (
        f_X9_answers_73 M a1 a2 v20 v21 v23 v25)
      else (
        xb (f_X9_record M) fun M26 =>
        f_X9_answers_73 M26 a1 a2 v20 v21 v23 v25))
    else (
      xgd (xin 7 916) <| xl (xw M 150 (7 : Int32).toNatClampNeg v25) fun M27 =>
      some ((-5), M27)))
set_option maxHeartbeats 1000000 in
theorem x_X9_answers {ξ : xX} {M : xM} {a1 a2 : Int32} {z : (Int32 × xM)} (h : f_X9_answers M a1 a2 = some z) : X ξ mX9_answers 0 [.ref 149, .int a1, .int a2] [] SH M 0 0 (xr (some (.int z.1)) SH z.2) := by
  rw [f_X9_answers] at h
  refine X_aload_n (x := 149) dX9_answers_0 rfl ?_
  refine X_bipush 6 dX9_answers_1 rfl ?_
  refine X_iload_n (x := a1) dX9_answers_3 rfl ?_
  refine X_vP (μ' := mX9_isOne) [.int 6, .int a1] [] kL_RX9_64 kM_X9_isOne rv_149 rfl rfl rfl dX9_answers_4 h (fun _ hv => x_X9_isOne hv) (fun v19 h => ?_)
  refine X_if_ne 12 dX9_answers_7 (by decide) h (fun h => ?_) (fun h => ?_)
  · refine X_sipush 756 dX9_answers_12 rfl ?_
    refine X_bipush 10 dX9_answers_15 rfl ?_
    refine X_iload_n (x := a1) dX9_answers_17 rfl ?_
    refine X_imul dX9_answers_18 ?_
    refine X_iadd dX9_answers_19 ?_
    refine X_istoreL_n (fun v20 => [.ref 149, .int a1, .int a2, .int v20]) dX9_answers_20 (Nat.le_of_ble_eq_true rfl) (Nat.le_of_ble_eq_true rfl) (xcat1_of rfl) h (fun _ => rfl) (fun v20 h => ?_)
    refine X_aload_n (x := 149) dX9_answers_21 rfl ?_
    refine X_get (v := .ref 150) kF_RX9_7 sh_149 rfl rfl dX9_answers_22 ?_
    refine X_iload_n (x := v20) dX9_answers_25 rfl ?_
    refine X_iconst 2 dX9_answers_26 rfl ?_
    refine X_iadd dX9_answers_27 ?_
    refine X_iald sh_150 dX9_answers_28 h (fun h => ?_)
    refine X_istoreL (fun v21 => [.ref 149, .int a1, .int a2, .int v20, .int v21]) dX9_answers_29 (Nat.le_of_ble_eq_true rfl) (Nat.le_of_ble_eq_true rfl) (xcat1_of rfl) h (fun _ => rfl) (fun v21 h => ?_)
    refine X_aload_n (x := 149) dX9_answers_31 rfl ?_
    refine X_iload (x := v21) dX9_answers_32 rfl ?_
    refine X_vP (μ' := mX9_bestFor) [.int v21] [] kL_RX9_142 kM_X9_bestFor rv_149 rfl rfl rfl dX9_answers_34 h (fun _ hv => x_X9_bestFor hv) (fun v22 h => ?_)
    refine X_istoreL (fun v23 => [.ref 149, .int a1, .int a2, .int v20, .int v21, .int v23]) dX9_answers_37 (Nat.le_of_ble_eq_true rfl) (Nat.le_of_ble_eq_true rfl) (xcat1_of rfl) h (fun _ => rfl) (fun v23 h => ?_)
    refine X_aload_n (x := 149) dX9_answers_39 rfl ?_
    refine X_iload_n (x := a1) dX9_answers_40 rfl ?_
    refine X_iload (x := v23) dX9_answers_41 rfl ?_
    refine X_vP (μ' := mX9_reasonAgainstAnswer) [.int a1, .int v23] [] kL_RX9_145 kM_X9_reasonAgainstAnswer rv_149 rfl rfl rfl dX9_answers_43 h (fun _ hv => x_X9_reasonAgainstAnswer hv) (fun v24 h => ?_)
    refine X_istoreL (fun v25 => [.ref 149, .int a1, .int a2, .int v20, .int v21, .int v23, .int v25]) dX9_answers_46 (Nat.le_of_ble_eq_true rfl) (Nat.le_of_ble_eq_true rfl) (xcat1_of rfl) h (fun _ => rfl) (fun v25 h => ?_)
    refine X_iload (x := v25) dX9_answers_48 rfl ?_
    refine X_if_le 65 dX9_answers_50 (by decide) h (fun h => ?_) (fun h => ?_)
    · refine X_iload_n (x := a2) dX9_answers_65 rfl ?_
      refine X_if_eq 73 dX9_answers_66 (by decide) h (fun h => ?_) (fun h => ?_)
      · exact x_X9_answers_73 h
      · refine X_aload_n (x := 149) dX9_answers_69 rfl ?_
        refine X_vV (μ' := mX9_record) [] [] kL_RX9_54 kM_X9_record rv_149 rfl rfl rfl dX9_answers_70 h (fun _ hv => x_X9_record hv) (fun M26 h => ?_)
        exact x_X9_answers_73 h
    · refine X_aload_n (x := 149) dX9_answers_53 rfl ?_
      refine X_get (v := .ref 150) kF_RX9_7 sh_149 rfl rfl dX9_answers_54 ?_
      refine X_bipush 7 dX9_answers_57 rfl ?_
      refine X_iload (x := v25) dX9_answers_59 rfl ?_
      refine X_iast sh_150 dX9_answers_61 h (fun M27 h => ?_)
      refine X_bipush (-5) dX9_answers_62 rfl ?_
      exact X_retI dX9_answers_64 rfl (Nat.le_refl _) (Nat.le_refl _) h
  · refine X_iconst (-1) dX9_answers_10 rfl ?_
    exact X_retI dX9_answers_11 rfl (Nat.le_refl _) (Nat.le_refl _) h
def f_X9_answer (M : xM) (a1 : Int32) : Option (Int32 × xM) :=
  xb2 (f_X9_answers M a1 1) fun v1 M2 =>
  some (v1, M2)
set_option maxHeartbeats 1000000 in
theorem x_X9_answer {ξ : xX} {M : xM} {a1 : Int32} {z : (Int32 × xM)} (h : f_X9_answer M a1 = some z) : X ξ mX9_answer 0 [.ref 149, .int a1] [] SH M 0 0 (xr (some (.int z.1)) SH z.2) := by
  rw [f_X9_answer] at h
  refine X_aload_n (x := 149) dX9_answer_0 rfl ?_
  refine X_iload_n (x := a1) dX9_answer_1 rfl ?_
  refine X_iconst 1 dX9_answer_2 rfl ?_
  refine X_vI (μ' := mX9_answers) [.int a1, .int 1] [] kL_RX9_148 kM_X9_answers rv_149 rfl rfl rfl dX9_answer_3 h (fun _ hv => x_X9_answers hv) (fun v1 M2 h => ?_)
  exact X_retI dX9_answer_6 rfl (Nat.le_refl _) (Nat.le_refl _) h
def f_X9_goesBy_152 (k87 : xM → Int32 → Int32 → Int32 → Int32 → Option (Int32 × xM)) (M : xM) (i1 : Int32) (i2 : Int32) (i3 : Int32) (i4 : Int32) : Option (Int32 × xM) :=
  xl (i4 + 1) fun v7 =>
  k87 M i1 i2 i3 v7
set_option maxHeartbeats 1000000 in
theorem x_X9_goesBy_152 {ξ : xX} {M : xM} {k87 : xM → Int32 → Int32 → Int32 → Int32 → Option (Int32 × xM)} {i1 : Int32} {i2 : Int32} {i3 : Int32} {i4 : Int32} (hk87 : ∀ (M : xM) (j1 j2 j3 j4 : Int32) (z : (Int32 × xM)), k87 M j1 j2 j3 j4 = some z → X ξ mX9_goesBy 87 [.ref 149, .int j1, .int j2, .int j3, .int j4] [] SH M 0 0 (xr (some (.int z.1)) SH z.2)) {z : (Int32 × xM)} (h : f_X9_goesBy_152 k87 M i1 i2 i3 i4 = some z) : X ξ mX9_goesBy 152 [.ref 149, .int i1, .int i2, .int i3, .int i4] [] SH M 0 0 (xr (some (.int z.1)) SH z.2) := by
  rw [f_X9_goesBy_152] at h
  refine X_iincL (x := i4) 1 (fun v7 => [.ref 149, .int i1, .int i2, .int i3, .int v7]) dX9_goesBy_152 rfl rfl (Nat.le_of_ble_eq_true rfl) (xcat1_of rfl) h (fun _ => rfl) (fun v7 h => ?_)
  refine X_goto 87 dX9_goesBy_155 (by decide) ?_
  exact hk87 _ _ _ _ _ _ h
def f_X9_goesBy_87 : Nat → xM → Int32 → Int32 → Int32 → Int32 → Option (Int32 × xM)
  | 0, _, _, _, _, _ => none
  | fu + 1, M, i1, i2, i3, i4 =>
    xgd (xin 6 916) <|
    if (M 150 (6 : Int32).toNatClampNeg) ≤ i4 then (
      some (i3, M))
    else (
      xb (f_X9_isOpen M i4) fun v8 =>
      if v8 = 0 then (
        f_X9_goesBy_152 (f_X9_goesBy_87 fu) M i1 i2 i3 i4)
      else (
        xgd (xin ((756 + (10 * i4)) + 7) 916) <|
        xgd (xin 0 916) <|
        if (M 150 (0 : Int32).toNatClampNeg) ≤ (M 150 ((756 + (10 * i4)) + 7).toNatClampNeg) then (
          f_X9_goesBy_152 (f_X9_goesBy_87 fu) M i1 i2 i3 i4)
        else (
          xgd (xin (756 + (10 * i4)) 916) <| xl (xw M 150 (756 + (10 * i4)).toNatClampNeg 2) fun M9 =>
          xl (i3 + 1) fun v10 =>
          f_X9_goesBy_152 (f_X9_goesBy_87 fu) M9 i1 i2 v10 i4)))
set_option maxHeartbeats 1000000 in
theorem x_X9_goesBy_87 {ξ : xX} : ∀ (fu : Nat) (M : xM) (i1 i2 i3 i4 : Int32) (z : (Int32 × xM)), f_X9_goesBy_87 fu M i1 i2 i3 i4 = some z → X ξ mX9_goesBy 87 [.ref 149, .int i1, .int i2, .int i3, .int i4] [] SH M 0 0 (xr (some (.int z.1)) SH z.2) := by
  intro fu
  induction fu with
  | zero => intro M i1 i2 i3 i4 z h; rw [f_X9_goesBy_87] at h; cases h
  | succ fu ih =>
    intro M i1 i2 i3 i4 z h
    rw [f_X9_goesBy_87] at h
    refine X_iload (x := i4) dX9_goesBy_87 rfl ?_
    refine X_aload_n (x := 149) dX9_goesBy_89 rfl ?_
    refine X_get (v := .ref 150) kF_RX9_7 sh_149 rfl rfl dX9_goesBy_90 ?_
    refine X_bipush 6 dX9_goesBy_93 rfl ?_
    refine X_iald sh_150 dX9_goesBy_95 h (fun h => ?_)
    refine X_icmp_ge 158 dX9_goesBy_96 (by decide) h (fun h => ?_) (fun h => ?_)
    · refine X_iload_n (x := i3) dX9_goesBy_158 rfl ?_
      exact X_retI dX9_goesBy_159 rfl (Nat.le_refl _) (Nat.le_refl _) h
    · refine X_aload_n (x := 149) dX9_goesBy_99 rfl ?_
      refine X_iload (x := i4) dX9_goesBy_100 rfl ?_
      refine X_vP (μ' := mX9_isOpen) [.int i4] [] kL_RX9_132 kM_X9_isOpen rv_149 rfl rfl rfl dX9_goesBy_102 h (fun _ hv => x_X9_isOpen hv) (fun v8 h => ?_)
      refine X_if_eq 152 dX9_goesBy_105 (by decide) h (fun h => ?_) (fun h => ?_)
      · exact x_X9_goesBy_152 ih h
      · refine X_aload_n (x := 149) dX9_goesBy_108 rfl ?_
        refine X_get (v := .ref 150) kF_RX9_7 sh_149 rfl rfl dX9_goesBy_109 ?_
        refine X_sipush 756 dX9_goesBy_112 rfl ?_
        refine X_bipush 10 dX9_goesBy_115 rfl ?_
        refine X_iload (x := i4) dX9_goesBy_117 rfl ?_
        refine X_imul dX9_goesBy_119 ?_
        refine X_iadd dX9_goesBy_120 ?_
        refine X_bipush 7 dX9_goesBy_121 rfl ?_
        refine X_iadd dX9_goesBy_123 ?_
        refine X_iald sh_150 dX9_goesBy_124 h (fun h => ?_)
        refine X_aload_n (x := 149) dX9_goesBy_125 rfl ?_
        refine X_get (v := .ref 150) kF_RX9_7 sh_149 rfl rfl dX9_goesBy_126 ?_
        refine X_iconst 0 dX9_goesBy_129 rfl ?_
        refine X_iald sh_150 dX9_goesBy_130 h (fun h => ?_)
        refine X_icmp_ge 152 dX9_goesBy_131 (by decide) h (fun h => ?_) (fun h => ?_)
        · exact x_X9_goesBy_152 ih h
        · refine X_aload_n (x := 149) dX9_goesBy_134 rfl ?_
          refine X_get (v := .ref 150) kF_RX9_7 sh_149 rfl rfl dX9_goesBy_135 ?_
          refine X_sipush 756 dX9_goesBy_138 rfl ?_
          refine X_bipush 10 dX9_goesBy_141 rfl ?_
          refine X_iload (x := i4) dX9_goesBy_143 rfl ?_
          refine X_imul dX9_goesBy_145 ?_
          refine X_iadd dX9_goesBy_146 ?_
          refine X_iconst 2 dX9_goesBy_147 rfl ?_
          refine X_iast sh_150 dX9_goesBy_148 h (fun M9 h => ?_)
          refine X_iincL (x := i3) 1 (fun v10 => [.ref 149, .int i1, .int i2, .int v10, .int i4]) dX9_goesBy_149 rfl rfl (Nat.le_of_ble_eq_true rfl) (xcat1_of rfl) h (fun _ => rfl) (fun v10 h => ?_)
          exact x_X9_goesBy_152 ih h
def f_X9_goesBy_50 : Nat → xM → Int32 → Int32 → Int32 → Option (Int32 × xM)
  | 0, _, _, _, _ => none
  | fu + 1, M, i1, i2, i3 =>
    xgd (xin 2 916) <|
    if (M 150 (2 : Int32).toNatClampNeg) ≤ i3 then (
      xl (0 : Int32) fun v11 =>
      xl (0 : Int32) fun v12 =>
      f_X9_goesBy_87 xFU M i1 i2 v11 v12)
    else (
      xgd (xin ((64 + (5 * i3)) + 4) 916) <| xl (xw M 150 ((64 + (5 * i3)) + 4).toNatClampNeg 28800) fun M13 =>
      xl (i3 + 1) fun v14 =>
      (f_X9_goesBy_50 fu) M13 i1 i2 v14)
set_option maxHeartbeats 1000000 in
theorem x_X9_goesBy_50 {ξ : xX} : ∀ (fu : Nat) (M : xM) (i1 i2 i3 : Int32) (z : (Int32 × xM)), f_X9_goesBy_50 fu M i1 i2 i3 = some z → X ξ mX9_goesBy 50 [.ref 149, .int i1, .int i2, .int i3] [] SH M 0 0 (xr (some (.int z.1)) SH z.2) := by
  intro fu
  induction fu with
  | zero => intro M i1 i2 i3 z h; rw [f_X9_goesBy_50] at h; cases h
  | succ fu ih =>
    intro M i1 i2 i3 z h
    rw [f_X9_goesBy_50] at h
    refine X_iload_n (x := i3) dX9_goesBy_50 rfl ?_
    refine X_aload_n (x := 149) dX9_goesBy_51 rfl ?_
    refine X_get (v := .ref 150) kF_RX9_7 sh_149 rfl rfl dX9_goesBy_52 ?_
    refine X_iconst 2 dX9_goesBy_55 rfl ?_
    refine X_iald sh_150 dX9_goesBy_56 h (fun h => ?_)
    refine X_icmp_ge 82 dX9_goesBy_57 (by decide) h (fun h => ?_) (fun h => ?_)
    · refine X_iconst 0 dX9_goesBy_82 rfl ?_
      refine X_istoreL_n (fun v11 => [.ref 149, .int i1, .int i2, .int v11]) dX9_goesBy_83 (Nat.le_of_ble_eq_true rfl) (Nat.le_of_ble_eq_true rfl) (xcat1_of rfl) h (fun _ => rfl) (fun v11 h => ?_)
      refine X_iconst 0 dX9_goesBy_84 rfl ?_
      refine X_istoreL (fun v12 => [.ref 149, .int i1, .int i2, .int v11, .int v12]) dX9_goesBy_85 (Nat.le_of_ble_eq_true rfl) (Nat.le_of_ble_eq_true rfl) (xcat1_of rfl) h (fun _ => rfl) (fun v12 h => ?_)
      exact x_X9_goesBy_87 _ _ _ _ _ _ _ h
    · refine X_aload_n (x := 149) dX9_goesBy_60 rfl ?_
      refine X_get (v := .ref 150) kF_RX9_7 sh_149 rfl rfl dX9_goesBy_61 ?_
      refine X_bipush 64 dX9_goesBy_64 rfl ?_
      refine X_iconst 5 dX9_goesBy_66 rfl ?_
      refine X_iload_n (x := i3) dX9_goesBy_67 rfl ?_
      refine X_imul dX9_goesBy_68 ?_
      refine X_iadd dX9_goesBy_69 ?_
      refine X_iconst 4 dX9_goesBy_70 rfl ?_
      refine X_iadd dX9_goesBy_71 ?_
      refine X_sipush 28800 dX9_goesBy_72 rfl ?_
      refine X_iast sh_150 dX9_goesBy_75 h (fun M13 h => ?_)
      refine X_iincL (x := i3) 1 (fun v14 => [.ref 149, .int i1, .int i2, .int v14]) dX9_goesBy_76 rfl rfl (Nat.le_of_ble_eq_true rfl) (xcat1_of rfl) h (fun _ => rfl) (fun v14 h => ?_)
      refine X_goto 50 dX9_goesBy_79 (by decide) ?_
      exact ih _ _ _ _ _ h
def f_X9_goesBy_38 (M : xM) (i1 : Int32) (i2 : Int32) : Option (Int32 × xM) :=
  xgd (xin 0 916) <|
  xgd (xin 0 916) <| xl (xw M 150 (0 : Int32).toNatClampNeg ((M 150 (0 : Int32).toNatClampNeg) + i1)) fun M15 =>
  xl (0 : Int32) fun v16 =>
  f_X9_goesBy_50 xFU M15 i1 i2 v16
set_option maxHeartbeats 1000000 in
theorem x_X9_goesBy_38 {ξ : xX} {M : xM} {i1 : Int32} {i2 : Int32} {z : (Int32 × xM)} (h : f_X9_goesBy_38 M i1 i2 = some z) : X ξ mX9_goesBy 38 [.ref 149, .int i1, .int i2] [] SH M 0 0 (xr (some (.int z.1)) SH z.2) := by
  rw [f_X9_goesBy_38] at h
  refine X_aload_n (x := 149) dX9_goesBy_38 rfl ?_
  refine X_get (v := .ref 150) kF_RX9_7 sh_149 rfl rfl dX9_goesBy_39 ?_
  refine X_iconst 0 dX9_goesBy_42 rfl ?_
  refine X_dup2 dX9_goesBy_43 rfl rfl ?_
  refine X_iald sh_150 dX9_goesBy_44 h (fun h => ?_)
  refine X_iload_n (x := i1) dX9_goesBy_45 rfl ?_
  refine X_iadd dX9_goesBy_46 ?_
  refine X_iast sh_150 dX9_goesBy_47 h (fun M15 h => ?_)
  refine X_iconst 0 dX9_goesBy_48 rfl ?_
  refine X_istoreL_n (fun v16 => [.ref 149, .int i1, .int i2, .int v16]) dX9_goesBy_49 (Nat.le_of_ble_eq_true rfl) (Nat.le_of_ble_eq_true rfl) (xcat1_of rfl) h (fun _ => rfl) (fun v16 h => ?_)
  exact x_X9_goesBy_50 _ _ _ _ _ _ h
def f_X9_goesBy (M : xM) (a1 a2 : Int32) : Option (Int32 × xM) :=
  xb (f_X9_in a1 1 99) fun v17 =>
  if v17 = 0 then (
    some ((-2), M))
  else (
    xgd (xin 0 916) <|
    if ((M 150 (0 : Int32).toNatClampNeg) + a1) ≤ 9999 then (
      if a2 = 0 then (
        f_X9_goesBy_38 M a1 a2)
      else (
        xb (f_X9_record M) fun M18 =>
        f_X9_goesBy_38 M18 a1 a2))
    else (
      some ((-3), M)))
set_option maxHeartbeats 1000000 in
theorem x_X9_goesBy {ξ : xX} {M : xM} {a1 a2 : Int32} {z : (Int32 × xM)} (h : f_X9_goesBy M a1 a2 = some z) : X ξ mX9_goesBy 0 [.ref 149, .int a1, .int a2] [] SH M 0 0 (xr (some (.int z.1)) SH z.2) := by
  rw [f_X9_goesBy] at h
  refine X_iload_n (x := a1) dX9_goesBy_0 rfl ?_
  refine X_iconst 1 dX9_goesBy_1 rfl ?_
  refine X_bipush 99 dX9_goesBy_2 rfl ?_
  refine X_sP (μ' := mX9_in) [.int a1, .int 1, .int 99] [] kL_RX9_42 kM_X9_in rfl rfl rfl dX9_goesBy_4 h (fun _ hv => x_X9_in hv) (fun v17 h => ?_)
  refine X_if_ne 13 dX9_goesBy_7 (by decide) h (fun h => ?_) (fun h => ?_)
  · refine X_aload_n (x := 149) dX9_goesBy_13 rfl ?_
    refine X_get (v := .ref 150) kF_RX9_7 sh_149 rfl rfl dX9_goesBy_14 ?_
    refine X_iconst 0 dX9_goesBy_17 rfl ?_
    refine X_iald sh_150 dX9_goesBy_18 h (fun h => ?_)
    refine X_iload_n (x := a1) dX9_goesBy_19 rfl ?_
    refine X_iadd dX9_goesBy_20 ?_
    refine X_sipush 9999 dX9_goesBy_21 rfl ?_
    refine X_icmp_le 30 dX9_goesBy_24 (by decide) h (fun h => ?_) (fun h => ?_)
    · refine X_iload_n (x := a2) dX9_goesBy_30 rfl ?_
      refine X_if_eq 38 dX9_goesBy_31 (by decide) h (fun h => ?_) (fun h => ?_)
      · exact x_X9_goesBy_38 h
      · refine X_aload_n (x := 149) dX9_goesBy_34 rfl ?_
        refine X_vV (μ' := mX9_record) [] [] kL_RX9_54 kM_X9_record rv_149 rfl rfl rfl dX9_goesBy_35 h (fun _ hv => x_X9_record hv) (fun M18 h => ?_)
        exact x_X9_goesBy_38 h
    · refine X_bipush (-3) dX9_goesBy_27 rfl ?_
      exact X_retI dX9_goesBy_29 rfl (Nat.le_refl _) (Nat.le_refl _) h
  · refine X_bipush (-2) dX9_goesBy_10 rfl ?_
    exact X_retI dX9_goesBy_12 rfl (Nat.le_refl _) (Nat.le_refl _) h
def f_X9_passDays (M : xM) (a1 : Int32) : Option (Int32 × xM) :=
  xb2 (f_X9_goesBy M a1 1) fun v1 M2 =>
  some (v1, M2)
set_option maxHeartbeats 1000000 in
theorem x_X9_passDays {ξ : xX} {M : xM} {a1 : Int32} {z : (Int32 × xM)} (h : f_X9_passDays M a1 = some z) : X ξ mX9_passDays 0 [.ref 149, .int a1] [] SH M 0 0 (xr (some (.int z.1)) SH z.2) := by
  rw [f_X9_passDays] at h
  refine X_aload_n (x := 149) dX9_passDays_0 rfl ?_
  refine X_iload_n (x := a1) dX9_passDays_1 rfl ?_
  refine X_iconst 1 dX9_passDays_2 rfl ?_
  refine X_vI (μ' := mX9_goesBy) [.int a1, .int 1] [] kL_RX9_152 kM_X9_goesBy rv_149 rfl rfl rfl dX9_passDays_3 h (fun _ hv => x_X9_goesBy hv) (fun v1 M2 h => ?_)
  exact X_retI dX9_passDays_6 rfl (Nat.le_refl _) (Nat.le_refl _) h
def f_X9_append (M : xM) (a1 : Int32) : Option (Int32 × xM) :=
  xb (f_X9_in a1 32 126) fun v1 =>
  if v1 = 0 then (
    some ((-2), M))
  else (
    if (M 149 6) = 80 then (
      some ((-4), M))
    else (
      xgd (xin (M 149 6) 80) <| xl (xw M 154 (M 149 6).toNatClampNeg a1) fun M2 =>
      xl (xw M2 149 6 ((M2 149 6) + 1)) fun M3 =>
      some ((M3 149 6), M3)))
set_option maxHeartbeats 1000000 in
theorem x_X9_append {ξ : xX} {M : xM} {a1 : Int32} {z : (Int32 × xM)} (h : f_X9_append M a1 = some z) : X ξ mX9_append 0 [.ref 149, .int a1] [] SH M 0 0 (xr (some (.int z.1)) SH z.2) := by
  rw [f_X9_append] at h
  refine X_iload_n (x := a1) dX9_append_0 rfl ?_
  refine X_bipush 32 dX9_append_1 rfl ?_
  refine X_bipush 126 dX9_append_3 rfl ?_
  refine X_sP (μ' := mX9_in) [.int a1, .int 32, .int 126] [] kL_RX9_42 kM_X9_in rfl rfl rfl dX9_append_5 h (fun _ hv => x_X9_in hv) (fun v1 h => ?_)
  refine X_if_ne 14 dX9_append_8 (by decide) h (fun h => ?_) (fun h => ?_)
  · refine X_aload_n (x := 149) dX9_append_14 rfl ?_
    refine X_get (v := .int (M 149 6)) kF_RX9_155 sh_149 rfl rfl dX9_append_15 ?_
    refine X_bipush 80 dX9_append_18 rfl ?_
    refine X_icmp_ne 26 dX9_append_20 (by decide) h (fun h => ?_) (fun h => ?_)
    · refine X_aload_n (x := 149) dX9_append_26 rfl ?_
      refine X_get (v := .ref 154) kF_RX9_23 sh_149 rfl rfl dX9_append_27 ?_
      refine X_aload_n (x := 149) dX9_append_30 rfl ?_
      refine X_get (v := .int (M 149 6)) kF_RX9_155 sh_149 rfl rfl dX9_append_31 ?_
      refine X_iload_n (x := a1) dX9_append_34 rfl ?_
      refine X_iast sh_154 dX9_append_35 h (fun M2 h => ?_)
      refine X_aload_n (x := 149) dX9_append_36 rfl ?_
      refine X_dup dX9_append_37 rfl ?_
      refine X_get (v := .int (M2 149 6)) kF_RX9_155 sh_149 rfl rfl dX9_append_38 ?_
      refine X_iconst 1 dX9_append_41 rfl ?_
      refine X_iadd dX9_append_42 ?_
      refine X_putI kF_RX9_155 sh_149 rfl rfl rfl dX9_append_43 h (fun M3 h => ?_)
      refine X_aload_n (x := 149) dX9_append_46 rfl ?_
      refine X_get (v := .int (M3 149 6)) kF_RX9_155 sh_149 rfl rfl dX9_append_47 ?_
      exact X_retI dX9_append_50 rfl (Nat.le_refl _) (Nat.le_refl _) h
    · refine X_bipush (-4) dX9_append_23 rfl ?_
      exact X_retI dX9_append_25 rfl (Nat.le_refl _) (Nat.le_refl _) h
  · refine X_bipush (-2) dX9_append_11 rfl ?_
    exact X_retI dX9_append_13 rfl (Nat.le_refl _) (Nat.le_refl _) h
def f_X9_clearText (M : xM) : Option (Int32 × xM) :=
  xl (M 149 6) fun v2 =>
  xl (xw M 149 6 0) fun M3 =>
  some (v2, M3)
set_option maxHeartbeats 1000000 in
theorem x_X9_clearText {ξ : xX} {M : xM} {z : (Int32 × xM)} (h : f_X9_clearText M = some z) : X ξ mX9_clearText 0 [.ref 149] [] SH M 0 0 (xr (some (.int z.1)) SH z.2) := by
  rw [f_X9_clearText] at h
  refine X_aload_n (x := 149) dX9_clearText_0 rfl ?_
  refine X_get (v := .int (M 149 6)) kF_RX9_155 sh_149 rfl rfl dX9_clearText_1 ?_
  refine X_istoreL_n (fun v2 => [.ref 149, .int v2]) dX9_clearText_4 (Nat.le_of_ble_eq_true rfl) (Nat.le_of_ble_eq_true rfl) (xcat1_of rfl) h (fun _ => rfl) (fun v2 h => ?_)
  refine X_aload_n (x := 149) dX9_clearText_5 rfl ?_
  refine X_iconst 0 dX9_clearText_6 rfl ?_
  refine X_putI kF_RX9_155 sh_149 rfl rfl rfl dX9_clearText_7 h (fun M3 h => ?_)
  refine X_iload_n (x := v2) dX9_clearText_10 rfl ?_
  exact X_retI dX9_clearText_11 rfl (Nat.le_refl _) (Nat.le_refl _) h
def f_X9_letter_44 (M : xM) (i1 : Int32) (i2 : Int32) (s1 : Int32) (s2 : Int32) : Option (Int32 × xM) :=
  xl (xw M 149 10 (s1 + s2)) fun M2 =>
  xgd (xz i2) (some (i2, M2))
set_option maxHeartbeats 1000000 in
theorem x_X9_letter_44 {ξ : xX} {M : xM} {i1 : Int32} {i2 : Int32} {s1 : Int32} {s2 : Int32} {z : (Int32 × xM)} (h : f_X9_letter_44 M i1 i2 s1 s2 = some z) : X ξ mX9_letter 44 [.ref 149, .int i1, .int i2] [.int s2, .int s1, .ref 149] SH M 0 0 (xr (some (.int z.1)) SH z.2) := by
  rw [f_X9_letter_44] at h
  refine X_iadd dX9_letter_44 ?_
  refine X_putI kF_RX9_158 sh_149 rfl rfl rfl dX9_letter_45 h (fun M2 h => ?_)
  refine X_iload_n (x := i2) dX9_letter_48 rfl ?_
  exact X_retZI dX9_letter_49 rfl (Nat.le_refl _) (Nat.le_refl _) h
def f_X9_letter_29 (M : xM) (i1 : Int32) (s0 : Int32) : Option (Int32 × xM) :=
  xl s0 fun v3 =>
  if v3 = 0 then (
    f_X9_letter_44 M i1 v3 (M 149 10) 0)
  else (
    f_X9_letter_44 M i1 v3 (M 149 10) 1)
set_option maxHeartbeats 1000000 in
theorem x_X9_letter_29 {ξ : xX} {M : xM} {i1 : Int32} {s0 : Int32} {z : (Int32 × xM)} (h : f_X9_letter_29 M i1 s0 = some z) : X ξ mX9_letter 29 [.ref 149, .int i1] [.int s0] SH M 0 0 (xr (some (.int z.1)) SH z.2) := by
  rw [f_X9_letter_29] at h
  refine X_istoreL_n (fun v3 => [.ref 149, .int i1, .int v3]) dX9_letter_29 (Nat.le_of_ble_eq_true rfl) (Nat.le_of_ble_eq_true rfl) (xcat1_of rfl) h (fun _ => rfl) (fun v3 h => ?_)
  refine X_aload_n (x := 149) dX9_letter_30 rfl ?_
  refine X_dup dX9_letter_31 rfl ?_
  refine X_get (v := .int (M 149 10)) kF_RX9_158 sh_149 rfl rfl dX9_letter_32 ?_
  refine X_iload_n (x := v3) dX9_letter_35 rfl ?_
  refine X_if_eq 43 dX9_letter_36 (by decide) h (fun h => ?_) (fun h => ?_)
  · refine X_iconst 0 dX9_letter_43 rfl ?_
    exact x_X9_letter_44 h
  · refine X_iconst 1 dX9_letter_39 rfl ?_
    refine X_goto 44 dX9_letter_40 (by decide) ?_
    exact x_X9_letter_44 h
def f_X9_letter_28 (M : xM) (i1 : Int32) : Option (Int32 × xM) :=
  f_X9_letter_29 M i1 0
set_option maxHeartbeats 1000000 in
theorem x_X9_letter_28 {ξ : xX} {M : xM} {i1 : Int32} {z : (Int32 × xM)} (h : f_X9_letter_28 M i1 = some z) : X ξ mX9_letter 28 [.ref 149, .int i1] [] SH M 0 0 (xr (some (.int z.1)) SH z.2) := by
  rw [f_X9_letter_28] at h
  refine X_iconst 0 dX9_letter_28 rfl ?_
  exact x_X9_letter_29 h
def f_X9_letter (M : xM) (a1 : Int32) : Option (Int32 × xM) :=
  if (M 149 6) ≤ (M 149 10) then (
    f_X9_letter_28 M a1)
  else (
    xgd (xin (M 149 10) 80) <|
    if (M 154 (M 149 10).toNatClampNeg) = a1 then (
      f_X9_letter_29 M a1 1)
    else (
      f_X9_letter_28 M a1))
set_option maxHeartbeats 1000000 in
theorem x_X9_letter {ξ : xX} {M : xM} {a1 : Int32} {z : (Int32 × xM)} (h : f_X9_letter M a1 = some z) : X ξ mX9_letter 0 [.ref 149, .int a1] [] SH M 0 0 (xr (some (.int z.1)) SH z.2) := by
  rw [f_X9_letter] at h
  refine X_aload_n (x := 149) dX9_letter_0 rfl ?_
  refine X_get (v := .int (M 149 10)) kF_RX9_158 sh_149 rfl rfl dX9_letter_1 ?_
  refine X_aload_n (x := 149) dX9_letter_4 rfl ?_
  refine X_get (v := .int (M 149 6)) kF_RX9_155 sh_149 rfl rfl dX9_letter_5 ?_
  refine X_icmp_ge 28 dX9_letter_8 (by decide) h (fun h => ?_) (fun h => ?_)
  · exact x_X9_letter_28 h
  · refine X_aload_n (x := 149) dX9_letter_11 rfl ?_
    refine X_get (v := .ref 154) kF_RX9_23 sh_149 rfl rfl dX9_letter_12 ?_
    refine X_aload_n (x := 149) dX9_letter_15 rfl ?_
    refine X_get (v := .int (M 149 10)) kF_RX9_158 sh_149 rfl rfl dX9_letter_16 ?_
    refine X_iald sh_154 dX9_letter_19 h (fun h => ?_)
    refine X_iload_n (x := a1) dX9_letter_20 rfl ?_
    refine X_icmp_ne 28 dX9_letter_21 (by decide) h (fun h => ?_) (fun h => ?_)
    · exact x_X9_letter_28 h
    · refine X_iconst 1 dX9_letter_24 rfl ?_
      refine X_goto 29 dX9_letter_25 (by decide) ?_
      exact x_X9_letter_29 h
def f_X9_number_71 (k9 : xM → Int32 → Int32 → Int32 → Int32 → Int32 → Option (Int32 × xM)) (M : xM) (i1 : Int32) (i2 : Int32) (i3 : Int32) (i4 : Int32) (i5 : Int32) : Option (Int32 × xM) :=
  xgd (xin (M 149 10) 80) <|
  xl (((10 * i5) + (M 154 (M 149 10).toNatClampNeg)) - 48) fun v4 =>
  xl (xw M 149 10 ((M 149 10) + 1)) fun M5 =>
  k9 M5 i1 i2 i3 i4 v4
set_option maxHeartbeats 1000000 in
theorem x_X9_number_71 {ξ : xX} {M : xM} {k9 : xM → Int32 → Int32 → Int32 → Int32 → Int32 → Option (Int32 × xM)} {i1 : Int32} {i2 : Int32} {i3 : Int32} {i4 : Int32} {i5 : Int32} (hk9 : ∀ (M : xM) (j1 j2 j3 j4 j5 : Int32) (z : (Int32 × xM)), k9 M j1 j2 j3 j4 j5 = some z → X ξ mX9_number 9 [.ref 149, .int j1, .int j2, .int j3, .int j4, .int j5] [] SH M 0 0 (xr (some (.int z.1)) SH z.2)) {z : (Int32 × xM)} (h : f_X9_number_71 k9 M i1 i2 i3 i4 i5 = some z) : X ξ mX9_number 71 [.ref 149, .int i1, .int i2, .int i3, .int i4, .int i5] [] SH M 0 0 (xr (some (.int z.1)) SH z.2) := by
  rw [f_X9_number_71] at h
  refine X_bipush 10 dX9_number_71 rfl ?_
  refine X_iload (x := i5) dX9_number_73 rfl ?_
  refine X_imul dX9_number_75 ?_
  refine X_aload_n (x := 149) dX9_number_76 rfl ?_
  refine X_get (v := .ref 154) kF_RX9_23 sh_149 rfl rfl dX9_number_77 ?_
  refine X_aload_n (x := 149) dX9_number_80 rfl ?_
  refine X_get (v := .int (M 149 10)) kF_RX9_158 sh_149 rfl rfl dX9_number_81 ?_
  refine X_iald sh_154 dX9_number_84 h (fun h => ?_)
  refine X_iadd dX9_number_85 ?_
  refine X_bipush 48 dX9_number_86 rfl ?_
  refine X_isub dX9_number_88 ?_
  refine X_istoreL (fun v4 => [.ref 149, .int i1, .int i2, .int i3, .int i4, .int v4]) dX9_number_89 (Nat.le_of_ble_eq_true rfl) (Nat.le_of_ble_eq_true rfl) (xcat1_of rfl) h (fun _ => rfl) (fun v4 h => ?_)
  refine X_aload_n (x := 149) dX9_number_91 rfl ?_
  refine X_dup dX9_number_92 rfl ?_
  refine X_get (v := .int (M 149 10)) kF_RX9_158 sh_149 rfl rfl dX9_number_93 ?_
  refine X_iconst 1 dX9_number_96 rfl ?_
  refine X_iadd dX9_number_97 ?_
  refine X_putI kF_RX9_158 sh_149 rfl rfl rfl dX9_number_98 h (fun M5 h => ?_)
  refine X_goto 9 dX9_number_101 (by decide) ?_
  exact hk9 _ _ _ _ _ _ _ h
def f_X9_number_104 (M : xM) (i1 : Int32) (i2 : Int32) (i3 : Int32) (i4 : Int32) (i5 : Int32) : Option (Int32 × xM) :=
  if (M 149 10) = i4 then (
    some (0, M))
  else (
    xb (f_X9_in i5 i2 i3) fun v6 =>
    if v6 = 0 then (
      xl (xw M 149 10 i4) fun M7 =>
      some (0, M7))
    else (
      xgd (xin i1 4) <| xl (xw M 158 i1.toNatClampNeg i5) fun M8 =>
      some (1, M8)))
set_option maxHeartbeats 1000000 in
theorem x_X9_number_104 {ξ : xX} {M : xM} {i1 : Int32} {i2 : Int32} {i3 : Int32} {i4 : Int32} {i5 : Int32} {z : (Int32 × xM)} (h : f_X9_number_104 M i1 i2 i3 i4 i5 = some z) : X ξ mX9_number 104 [.ref 149, .int i1, .int i2, .int i3, .int i4, .int i5] [] SH M 0 0 (xr (some (.int z.1)) SH z.2) := by
  rw [f_X9_number_104] at h
  refine X_aload_n (x := 149) dX9_number_104 rfl ?_
  refine X_get (v := .int (M 149 10)) kF_RX9_158 sh_149 rfl rfl dX9_number_105 ?_
  refine X_iload (x := i4) dX9_number_108 rfl ?_
  refine X_icmp_ne 115 dX9_number_110 (by decide) h (fun h => ?_) (fun h => ?_)
  · refine X_iload (x := i5) dX9_number_115 rfl ?_
    refine X_iload_n (x := i2) dX9_number_117 rfl ?_
    refine X_iload_n (x := i3) dX9_number_118 rfl ?_
    refine X_sP (μ' := mX9_in) [.int i5, .int i2, .int i3] [] kL_RX9_42 kM_X9_in rfl rfl rfl dX9_number_119 h (fun _ hv => x_X9_in hv) (fun v6 h => ?_)
    refine X_if_ne 133 dX9_number_122 (by decide) h (fun h => ?_) (fun h => ?_)
    · refine X_aload_n (x := 149) dX9_number_133 rfl ?_
      refine X_get (v := .ref 158) kF_RX9_35 sh_149 rfl rfl dX9_number_134 ?_
      refine X_iload_n (x := i1) dX9_number_137 rfl ?_
      refine X_iload (x := i5) dX9_number_138 rfl ?_
      refine X_iast sh_158 dX9_number_140 h (fun M8 h => ?_)
      refine X_iconst 1 dX9_number_141 rfl ?_
      exact X_retL (by decide) dX9_number_142 rfl (Nat.le_refl _) (Nat.le_refl _) h
    · refine X_aload_n (x := 149) dX9_number_125 rfl ?_
      refine X_iload (x := i4) dX9_number_126 rfl ?_
      refine X_putI kF_RX9_158 sh_149 rfl rfl rfl dX9_number_128 h (fun M7 h => ?_)
      refine X_iconst 0 dX9_number_131 rfl ?_
      exact X_retL (by decide) dX9_number_132 rfl (Nat.le_refl _) (Nat.le_refl _) h
  · refine X_iconst 0 dX9_number_113 rfl ?_
    exact X_retL (by decide) dX9_number_114 rfl (Nat.le_refl _) (Nat.le_refl _) h
def f_X9_number_9 : Nat → xM → Int32 → Int32 → Int32 → Int32 → Int32 → Option (Int32 × xM)
  | 0, _, _, _, _, _, _ => none
  | fu + 1, M, i1, i2, i3, i4, i5 =>
    if (M 149 6) ≤ (M 149 10) then (
      f_X9_number_104 M i1 i2 i3 i4 i5)
    else (
      xgd (xin (M 149 10) 80) <|
      xb (f_X9_in (M 154 (M 149 10).toNatClampNeg) 48 57) fun v9 =>
      if v9 = 0 then (
        f_X9_number_104 M i1 i2 i3 i4 i5)
      else (
        if (i4 + 3) ≤ (M 149 10) then (
          f_X9_number_104 M i1 i2 i3 i4 i5)
        else (
          if (M 149 10) = i4 then (
            f_X9_number_71 (f_X9_number_9 fu) M i1 i2 i3 i4 i5)
          else (
            xgd (xin i4 80) <|
            if (M 154 i4.toNatClampNeg) = 48 then (
              f_X9_number_104 M i1 i2 i3 i4 i5)
            else (
              f_X9_number_71 (f_X9_number_9 fu) M i1 i2 i3 i4 i5)))))
set_option maxHeartbeats 1000000 in
theorem x_X9_number_9 {ξ : xX} : ∀ (fu : Nat) (M : xM) (i1 i2 i3 i4 i5 : Int32) (z : (Int32 × xM)), f_X9_number_9 fu M i1 i2 i3 i4 i5 = some z → X ξ mX9_number 9 [.ref 149, .int i1, .int i2, .int i3, .int i4, .int i5] [] SH M 0 0 (xr (some (.int z.1)) SH z.2) := by
  intro fu
  induction fu with
  | zero => intro M i1 i2 i3 i4 i5 z h; rw [f_X9_number_9] at h; cases h
  | succ fu ih =>
    intro M i1 i2 i3 i4 i5 z h
    rw [f_X9_number_9] at h
    refine X_aload_n (x := 149) dX9_number_9 rfl ?_
    refine X_get (v := .int (M 149 10)) kF_RX9_158 sh_149 rfl rfl dX9_number_10 ?_
    refine X_aload_n (x := 149) dX9_number_13 rfl ?_
    refine X_get (v := .int (M 149 6)) kF_RX9_155 sh_149 rfl rfl dX9_number_14 ?_
    refine X_icmp_ge 104 dX9_number_17 (by decide) h (fun h => ?_) (fun h => ?_)
    · exact x_X9_number_104 h
    · refine X_aload_n (x := 149) dX9_number_20 rfl ?_
      refine X_get (v := .ref 154) kF_RX9_23 sh_149 rfl rfl dX9_number_21 ?_
      refine X_aload_n (x := 149) dX9_number_24 rfl ?_
      refine X_get (v := .int (M 149 10)) kF_RX9_158 sh_149 rfl rfl dX9_number_25 ?_
      refine X_iald sh_154 dX9_number_28 h (fun h => ?_)
      refine X_bipush 48 dX9_number_29 rfl ?_
      refine X_bipush 57 dX9_number_31 rfl ?_
      refine X_sP (μ' := mX9_in) [.int (M 154 (M 149 10).toNatClampNeg), .int 48, .int 57] [] kL_RX9_42 kM_X9_in rfl rfl rfl dX9_number_33 h (fun _ hv => x_X9_in hv) (fun v9 h => ?_)
      refine X_if_eq 104 dX9_number_36 (by decide) h (fun h => ?_) (fun h => ?_)
      · exact x_X9_number_104 h
      · refine X_aload_n (x := 149) dX9_number_39 rfl ?_
        refine X_get (v := .int (M 149 10)) kF_RX9_158 sh_149 rfl rfl dX9_number_40 ?_
        refine X_iload (x := i4) dX9_number_43 rfl ?_
        refine X_iconst 3 dX9_number_45 rfl ?_
        refine X_iadd dX9_number_46 ?_
        refine X_icmp_ge 104 dX9_number_47 (by decide) h (fun h => ?_) (fun h => ?_)
        · exact x_X9_number_104 h
        · refine X_aload_n (x := 149) dX9_number_50 rfl ?_
          refine X_get (v := .int (M 149 10)) kF_RX9_158 sh_149 rfl rfl dX9_number_51 ?_
          refine X_iload (x := i4) dX9_number_54 rfl ?_
          refine X_icmp_eq 71 dX9_number_56 (by decide) h (fun h => ?_) (fun h => ?_)
          · exact x_X9_number_71 ih h
          · refine X_aload_n (x := 149) dX9_number_59 rfl ?_
            refine X_get (v := .ref 154) kF_RX9_23 sh_149 rfl rfl dX9_number_60 ?_
            refine X_iload (x := i4) dX9_number_63 rfl ?_
            refine X_iald sh_154 dX9_number_65 h (fun h => ?_)
            refine X_bipush 48 dX9_number_66 rfl ?_
            refine X_icmp_eq 104 dX9_number_68 (by decide) h (fun h => ?_) (fun h => ?_)
            · exact x_X9_number_104 h
            · exact x_X9_number_71 ih h
def f_X9_number (M : xM) (a1 a2 a3 : Int32) : Option (Int32 × xM) :=
  xl (M 149 10) fun v10 =>
  xl (0 : Int32) fun v11 =>
  f_X9_number_9 xFU M a1 a2 a3 v10 v11
set_option maxHeartbeats 1000000 in
theorem x_X9_number {ξ : xX} {M : xM} {a1 a2 a3 : Int32} {z : (Int32 × xM)} (h : f_X9_number M a1 a2 a3 = some z) : X ξ mX9_number 0 [.ref 149, .int a1, .int a2, .int a3] [] SH M 0 0 (xr (some (.int z.1)) SH z.2) := by
  rw [f_X9_number] at h
  refine X_aload_n (x := 149) dX9_number_0 rfl ?_
  refine X_get (v := .int (M 149 10)) kF_RX9_158 sh_149 rfl rfl dX9_number_1 ?_
  refine X_istoreL (fun v10 => [.ref 149, .int a1, .int a2, .int a3, .int v10]) dX9_number_4 (Nat.le_of_ble_eq_true rfl) (Nat.le_of_ble_eq_true rfl) (xcat1_of rfl) h (fun _ => rfl) (fun v10 h => ?_)
  refine X_iconst 0 dX9_number_6 rfl ?_
  refine X_istoreL (fun v11 => [.ref 149, .int a1, .int a2, .int a3, .int v10, .int v11]) dX9_number_7 (Nat.le_of_ble_eq_true rfl) (Nat.le_of_ble_eq_true rfl) (xcat1_of rfl) h (fun _ => rfl) (fun v11 h => ?_)
  exact x_X9_number_9 _ _ _ _ _ _ _ _ h
def f_X9_readAct_25 (M : xM) (s1 : Int32) : Option (Int32 × xM) :=
  xl (xw M 149 11 s1) fun M1 =>
  xb2 (f_X9_letter M1 116) fun v2 M3 =>
  if v2 = 0 then (
    xb2 (f_X9_letter M3 97) fun v4 M5 =>
    if v4 = 0 then (
      xb2 (f_X9_letter M5 100) fun v6 M7 =>
      if v6 = 0 then (
        some (0, M7))
      else (
        xb2 (f_X9_number M7 0 1 99) fun v8 M9 =>
        if v8 = 0 then (
          some (0, M9))
        else (
          xb2 (f_X9_letter M9 59) fun v10 M11 =>
          if v10 = 0 then (
            some (0, M11))
          else (
            some (1, M11)))))
    else (
      xb2 (f_X9_number M5 0 0 15) fun v12 M13 =>
      if v12 = 0 then (
        some (0, M13))
      else (
        xb2 (f_X9_letter M13 59) fun v14 M15 =>
        if v14 = 0 then (
          some (0, M15))
        else (
          some (1, M15)))))
  else (
    xb2 (f_X9_number M3 0 0 7) fun v16 M17 =>
    if v16 = 0 then (
      some (0, M17))
    else (
      xb2 (f_X9_letter M17 109) fun v18 M19 =>
      if v18 = 0 then (
        some (0, M19))
      else (
        xb2 (f_X9_number M19 1 0 3) fun v20 M21 =>
        if v20 = 0 then (
          some (0, M21))
        else (
          xb2 (f_X9_letter M21 118) fun v22 M23 =>
          if v22 = 0 then (
            some (0, M23))
          else (
            xb2 (f_X9_number M23 2 1 380) fun v24 M25 =>
            if v24 = 0 then (
              some (0, M25))
            else (
              xb2 (f_X9_letter M25 115) fun v26 M27 =>
              if v26 = 0 then (
                some (0, M27))
              else (
                xb2 (f_X9_number M27 3 0 1) fun v28 M29 =>
                if v28 = 0 then (
                  some (0, M29))
                else (
                  xb2 (f_X9_letter M29 59) fun v30 M31 =>
                  if v30 = 0 then (
                    some (0, M31))
                  else (
                    some (1, M31))))))))))
set_option maxHeartbeats 1000000 in
theorem x_X9_readAct_25 {ξ : xX} {M : xM} {s1 : Int32} {z : (Int32 × xM)} (h : f_X9_readAct_25 M s1 = some z) : X ξ mX9_readAct 25 [.ref 149] [.int s1, .ref 149] SH M 0 0 (xr (some (.int z.1)) SH z.2) := by
  rw [f_X9_readAct_25] at h
  refine X_putI kF_RX9_161 sh_149 rfl rfl rfl dX9_readAct_25 h (fun M1 h => ?_)
  refine X_aload_n (x := 149) dX9_readAct_28 rfl ?_
  refine X_bipush 116 dX9_readAct_29 rfl ?_
  refine X_vI (μ' := mX9_letter) [.int 116] [] kL_RX9_164 kM_X9_letter rv_149 rfl rfl rfl dX9_readAct_31 h (fun _ hv => x_X9_letter hv) (fun v2 M3 h => ?_)
  refine X_if_eq 122 dX9_readAct_34 (by decide) h (fun h => ?_) (fun h => ?_)
  · refine X_aload_n (x := 149) dX9_readAct_122 rfl ?_
    refine X_bipush 97 dX9_readAct_123 rfl ?_
    refine X_vI (μ' := mX9_letter) [.int 97] [] kL_RX9_164 kM_X9_letter rv_149 rfl rfl rfl dX9_readAct_125 h (fun _ hv => x_X9_letter hv) (fun v4 M5 h => ?_)
    refine X_if_eq 157 dX9_readAct_128 (by decide) h (fun h => ?_) (fun h => ?_)
    · refine X_aload_n (x := 149) dX9_readAct_157 rfl ?_
      refine X_bipush 100 dX9_readAct_158 rfl ?_
      refine X_vI (μ' := mX9_letter) [.int 100] [] kL_RX9_164 kM_X9_letter rv_149 rfl rfl rfl dX9_readAct_160 h (fun _ hv => x_X9_letter hv) (fun v6 M7 h => ?_)
      refine X_if_eq 190 dX9_readAct_163 (by decide) h (fun h => ?_) (fun h => ?_)
      · refine X_iconst 0 dX9_readAct_190 rfl ?_
        exact X_retL (by decide) dX9_readAct_191 rfl (Nat.le_refl _) (Nat.le_refl _) h
      · refine X_aload_n (x := 149) dX9_readAct_166 rfl ?_
        refine X_iconst 0 dX9_readAct_167 rfl ?_
        refine X_iconst 1 dX9_readAct_168 rfl ?_
        refine X_bipush 99 dX9_readAct_169 rfl ?_
        refine X_vI (μ' := mX9_number) [.int 0, .int 1, .int 99] [] kL_RX9_167 kM_X9_number rv_149 rfl rfl rfl dX9_readAct_171 h (fun _ hv => x_X9_number hv) (fun v8 M9 h => ?_)
        refine X_if_eq 190 dX9_readAct_174 (by decide) h (fun h => ?_) (fun h => ?_)
        · refine X_iconst 0 dX9_readAct_190 rfl ?_
          exact X_retL (by decide) dX9_readAct_191 rfl (Nat.le_refl _) (Nat.le_refl _) h
        · refine X_aload_n (x := 149) dX9_readAct_177 rfl ?_
          refine X_bipush 59 dX9_readAct_178 rfl ?_
          refine X_vI (μ' := mX9_letter) [.int 59] [] kL_RX9_164 kM_X9_letter rv_149 rfl rfl rfl dX9_readAct_180 h (fun _ hv => x_X9_letter hv) (fun v10 M11 h => ?_)
          refine X_if_eq 190 dX9_readAct_183 (by decide) h (fun h => ?_) (fun h => ?_)
          · refine X_iconst 0 dX9_readAct_190 rfl ?_
            exact X_retL (by decide) dX9_readAct_191 rfl (Nat.le_refl _) (Nat.le_refl _) h
          · refine X_iconst 1 dX9_readAct_186 rfl ?_
            refine X_goto 191 dX9_readAct_187 (by decide) ?_
            exact X_retL (by decide) dX9_readAct_191 rfl (Nat.le_refl _) (Nat.le_refl _) h
    · refine X_aload_n (x := 149) dX9_readAct_131 rfl ?_
      refine X_iconst 0 dX9_readAct_132 rfl ?_
      refine X_iconst 0 dX9_readAct_133 rfl ?_
      refine X_bipush 15 dX9_readAct_134 rfl ?_
      refine X_vI (μ' := mX9_number) [.int 0, .int 0, .int 15] [] kL_RX9_167 kM_X9_number rv_149 rfl rfl rfl dX9_readAct_136 h (fun _ hv => x_X9_number hv) (fun v12 M13 h => ?_)
      refine X_if_eq 155 dX9_readAct_139 (by decide) h (fun h => ?_) (fun h => ?_)
      · refine X_iconst 0 dX9_readAct_155 rfl ?_
        exact X_retL (by decide) dX9_readAct_156 rfl (Nat.le_refl _) (Nat.le_refl _) h
      · refine X_aload_n (x := 149) dX9_readAct_142 rfl ?_
        refine X_bipush 59 dX9_readAct_143 rfl ?_
        refine X_vI (μ' := mX9_letter) [.int 59] [] kL_RX9_164 kM_X9_letter rv_149 rfl rfl rfl dX9_readAct_145 h (fun _ hv => x_X9_letter hv) (fun v14 M15 h => ?_)
        refine X_if_eq 155 dX9_readAct_148 (by decide) h (fun h => ?_) (fun h => ?_)
        · refine X_iconst 0 dX9_readAct_155 rfl ?_
          exact X_retL (by decide) dX9_readAct_156 rfl (Nat.le_refl _) (Nat.le_refl _) h
        · refine X_iconst 1 dX9_readAct_151 rfl ?_
          refine X_goto 156 dX9_readAct_152 (by decide) ?_
          exact X_retL (by decide) dX9_readAct_156 rfl (Nat.le_refl _) (Nat.le_refl _) h
  · refine X_aload_n (x := 149) dX9_readAct_37 rfl ?_
    refine X_iconst 0 dX9_readAct_38 rfl ?_
    refine X_iconst 0 dX9_readAct_39 rfl ?_
    refine X_bipush 7 dX9_readAct_40 rfl ?_
    refine X_vI (μ' := mX9_number) [.int 0, .int 0, .int 7] [] kL_RX9_167 kM_X9_number rv_149 rfl rfl rfl dX9_readAct_42 h (fun _ hv => x_X9_number hv) (fun v16 M17 h => ?_)
    refine X_if_eq 120 dX9_readAct_45 (by decide) h (fun h => ?_) (fun h => ?_)
    · refine X_iconst 0 dX9_readAct_120 rfl ?_
      exact X_retL (by decide) dX9_readAct_121 rfl (Nat.le_refl _) (Nat.le_refl _) h
    · refine X_aload_n (x := 149) dX9_readAct_48 rfl ?_
      refine X_bipush 109 dX9_readAct_49 rfl ?_
      refine X_vI (μ' := mX9_letter) [.int 109] [] kL_RX9_164 kM_X9_letter rv_149 rfl rfl rfl dX9_readAct_51 h (fun _ hv => x_X9_letter hv) (fun v18 M19 h => ?_)
      refine X_if_eq 120 dX9_readAct_54 (by decide) h (fun h => ?_) (fun h => ?_)
      · refine X_iconst 0 dX9_readAct_120 rfl ?_
        exact X_retL (by decide) dX9_readAct_121 rfl (Nat.le_refl _) (Nat.le_refl _) h
      · refine X_aload_n (x := 149) dX9_readAct_57 rfl ?_
        refine X_iconst 1 dX9_readAct_58 rfl ?_
        refine X_iconst 0 dX9_readAct_59 rfl ?_
        refine X_iconst 3 dX9_readAct_60 rfl ?_
        refine X_vI (μ' := mX9_number) [.int 1, .int 0, .int 3] [] kL_RX9_167 kM_X9_number rv_149 rfl rfl rfl dX9_readAct_61 h (fun _ hv => x_X9_number hv) (fun v20 M21 h => ?_)
        refine X_if_eq 120 dX9_readAct_64 (by decide) h (fun h => ?_) (fun h => ?_)
        · refine X_iconst 0 dX9_readAct_120 rfl ?_
          exact X_retL (by decide) dX9_readAct_121 rfl (Nat.le_refl _) (Nat.le_refl _) h
        · refine X_aload_n (x := 149) dX9_readAct_67 rfl ?_
          refine X_bipush 118 dX9_readAct_68 rfl ?_
          refine X_vI (μ' := mX9_letter) [.int 118] [] kL_RX9_164 kM_X9_letter rv_149 rfl rfl rfl dX9_readAct_70 h (fun _ hv => x_X9_letter hv) (fun v22 M23 h => ?_)
          refine X_if_eq 120 dX9_readAct_73 (by decide) h (fun h => ?_) (fun h => ?_)
          · refine X_iconst 0 dX9_readAct_120 rfl ?_
            exact X_retL (by decide) dX9_readAct_121 rfl (Nat.le_refl _) (Nat.le_refl _) h
          · refine X_aload_n (x := 149) dX9_readAct_76 rfl ?_
            refine X_iconst 2 dX9_readAct_77 rfl ?_
            refine X_iconst 1 dX9_readAct_78 rfl ?_
            refine X_sipush 380 dX9_readAct_79 rfl ?_
            refine X_vI (μ' := mX9_number) [.int 2, .int 1, .int 380] [] kL_RX9_167 kM_X9_number rv_149 rfl rfl rfl dX9_readAct_82 h (fun _ hv => x_X9_number hv) (fun v24 M25 h => ?_)
            refine X_if_eq 120 dX9_readAct_85 (by decide) h (fun h => ?_) (fun h => ?_)
            · refine X_iconst 0 dX9_readAct_120 rfl ?_
              exact X_retL (by decide) dX9_readAct_121 rfl (Nat.le_refl _) (Nat.le_refl _) h
            · refine X_aload_n (x := 149) dX9_readAct_88 rfl ?_
              refine X_bipush 115 dX9_readAct_89 rfl ?_
              refine X_vI (μ' := mX9_letter) [.int 115] [] kL_RX9_164 kM_X9_letter rv_149 rfl rfl rfl dX9_readAct_91 h (fun _ hv => x_X9_letter hv) (fun v26 M27 h => ?_)
              refine X_if_eq 120 dX9_readAct_94 (by decide) h (fun h => ?_) (fun h => ?_)
              · refine X_iconst 0 dX9_readAct_120 rfl ?_
                exact X_retL (by decide) dX9_readAct_121 rfl (Nat.le_refl _) (Nat.le_refl _) h
              · refine X_aload_n (x := 149) dX9_readAct_97 rfl ?_
                refine X_iconst 3 dX9_readAct_98 rfl ?_
                refine X_iconst 0 dX9_readAct_99 rfl ?_
                refine X_iconst 1 dX9_readAct_100 rfl ?_
                refine X_vI (μ' := mX9_number) [.int 3, .int 0, .int 1] [] kL_RX9_167 kM_X9_number rv_149 rfl rfl rfl dX9_readAct_101 h (fun _ hv => x_X9_number hv) (fun v28 M29 h => ?_)
                refine X_if_eq 120 dX9_readAct_104 (by decide) h (fun h => ?_) (fun h => ?_)
                · refine X_iconst 0 dX9_readAct_120 rfl ?_
                  exact X_retL (by decide) dX9_readAct_121 rfl (Nat.le_refl _) (Nat.le_refl _) h
                · refine X_aload_n (x := 149) dX9_readAct_107 rfl ?_
                  refine X_bipush 59 dX9_readAct_108 rfl ?_
                  refine X_vI (μ' := mX9_letter) [.int 59] [] kL_RX9_164 kM_X9_letter rv_149 rfl rfl rfl dX9_readAct_110 h (fun _ hv => x_X9_letter hv) (fun v30 M31 h => ?_)
                  refine X_if_eq 120 dX9_readAct_113 (by decide) h (fun h => ?_) (fun h => ?_)
                  · refine X_iconst 0 dX9_readAct_120 rfl ?_
                    exact X_retL (by decide) dX9_readAct_121 rfl (Nat.le_refl _) (Nat.le_refl _) h
                  · refine X_iconst 1 dX9_readAct_116 rfl ?_
                    refine X_goto 121 dX9_readAct_117 (by decide) ?_
                    exact X_retL (by decide) dX9_readAct_121 rfl (Nat.le_refl _) (Nat.le_refl _) h
def f_X9_readAct (M : xM) : Option (Int32 × xM) :=
  if (M 149 6) ≤ (M 149 10) then (
    f_X9_readAct_25 M 0)
  else (
    xgd (xin (M 149 10) 80) <|
    f_X9_readAct_25 M (M 154 (M 149 10).toNatClampNeg))
set_option maxHeartbeats 1000000 in
theorem x_X9_readAct {ξ : xX} {M : xM} {z : (Int32 × xM)} (h : f_X9_readAct M = some z) : X ξ mX9_readAct 0 [.ref 149] [] SH M 0 0 (xr (some (.int z.1)) SH z.2) := by
  rw [f_X9_readAct] at h
  refine X_aload_n (x := 149) dX9_readAct_0 rfl ?_
  refine X_aload_n (x := 149) dX9_readAct_1 rfl ?_
  refine X_get (v := .int (M 149 10)) kF_RX9_158 sh_149 rfl rfl dX9_readAct_2 ?_
  refine X_aload_n (x := 149) dX9_readAct_5 rfl ?_
  refine X_get (v := .int (M 149 6)) kF_RX9_155 sh_149 rfl rfl dX9_readAct_6 ?_
  refine X_icmp_ge 24 dX9_readAct_9 (by decide) h (fun h => ?_) (fun h => ?_)
  · refine X_iconst 0 dX9_readAct_24 rfl ?_
    exact x_X9_readAct_25 h
  · refine X_aload_n (x := 149) dX9_readAct_12 rfl ?_
    refine X_get (v := .ref 154) kF_RX9_23 sh_149 rfl rfl dX9_readAct_13 ?_
    refine X_aload_n (x := 149) dX9_readAct_16 rfl ?_
    refine X_get (v := .int (M 149 10)) kF_RX9_158 sh_149 rfl rfl dX9_readAct_17 ?_
    refine X_iald sh_154 dX9_readAct_20 h (fun h => ?_)
    refine X_goto 25 dX9_readAct_21 (by decide) ?_
    exact x_X9_readAct_25 h
def f_X9_isGood_7 : Nat → xM → Int32 → Option (Int32 × xM)
  | 0, _, _ => none
  | fu + 1, M, i1 =>
    if i1 = 0 then (
      xgd (xz i1) (some (i1, M)))
    else (
      if (M 149 6) ≤ (M 149 10) then (
        xgd (xz i1) (some (i1, M)))
      else (
        xb2 (f_X9_readAct M) fun v3 M4 =>
        xl v3 fun v5 =>
        (f_X9_isGood_7 fu) M4 v5))
set_option maxHeartbeats 1000000 in
theorem x_X9_isGood_7 {ξ : xX} : ∀ (fu : Nat) (M : xM) (i1 : Int32) (z : (Int32 × xM)), f_X9_isGood_7 fu M i1 = some z → X ξ mX9_isGood 7 [.ref 149, .int i1] [] SH M 0 0 (xr (some (.int z.1)) SH z.2) := by
  intro fu
  induction fu with
  | zero => intro M i1 z h; rw [f_X9_isGood_7] at h; cases h
  | succ fu ih =>
    intro M i1 z h
    rw [f_X9_isGood_7] at h
    refine X_iload_n (x := i1) dX9_isGood_7 rfl ?_
    refine X_if_eq 30 dX9_isGood_8 (by decide) h (fun h => ?_) (fun h => ?_)
    · refine X_iload_n (x := i1) dX9_isGood_30 rfl ?_
      exact X_retZI dX9_isGood_31 rfl (Nat.le_refl _) (Nat.le_refl _) h
    · refine X_aload_n (x := 149) dX9_isGood_11 rfl ?_
      refine X_get (v := .int (M 149 10)) kF_RX9_158 sh_149 rfl rfl dX9_isGood_12 ?_
      refine X_aload_n (x := 149) dX9_isGood_15 rfl ?_
      refine X_get (v := .int (M 149 6)) kF_RX9_155 sh_149 rfl rfl dX9_isGood_16 ?_
      refine X_icmp_ge 30 dX9_isGood_19 (by decide) h (fun h => ?_) (fun h => ?_)
      · refine X_iload_n (x := i1) dX9_isGood_30 rfl ?_
        exact X_retZI dX9_isGood_31 rfl (Nat.le_refl _) (Nat.le_refl _) h
      · refine X_aload_n (x := 149) dX9_isGood_22 rfl ?_
        refine X_vI (μ' := mX9_readAct) [] [] kL_RX9_170 kM_X9_readAct rv_149 rfl rfl rfl dX9_isGood_23 h (fun _ hv => x_X9_readAct hv) (fun v3 M4 h => ?_)
        refine X_istoreL_n (fun v5 => [.ref 149, .int v5]) dX9_isGood_26 (Nat.le_of_ble_eq_true rfl) (Nat.le_of_ble_eq_true rfl) (xcat1_of rfl) h (fun _ => rfl) (fun v5 h => ?_)
        refine X_goto 7 dX9_isGood_27 (by decide) ?_
        exact ih _ _ _ h
def f_X9_isGood (M : xM) : Option (Int32 × xM) :=
  xl (xw M 149 10 0) fun M6 =>
  xl (1 : Int32) fun v7 =>
  f_X9_isGood_7 xFU M6 v7
set_option maxHeartbeats 1000000 in
theorem x_X9_isGood {ξ : xX} {M : xM} {z : (Int32 × xM)} (h : f_X9_isGood M = some z) : X ξ mX9_isGood 0 [.ref 149] [] SH M 0 0 (xr (some (.int z.1)) SH z.2) := by
  rw [f_X9_isGood] at h
  refine X_aload_n (x := 149) dX9_isGood_0 rfl ?_
  refine X_iconst 0 dX9_isGood_1 rfl ?_
  refine X_putI kF_RX9_158 sh_149 rfl rfl rfl dX9_isGood_2 h (fun M6 h => ?_)
  refine X_iconst 1 dX9_isGood_5 rfl ?_
  refine X_istoreL_n (fun v7 => [.ref 149, .int v7]) dX9_isGood_6 (Nat.le_of_ble_eq_true rfl) (Nat.le_of_ble_eq_true rfl) (xcat1_of rfl) h (fun _ => rfl) (fun v7 h => ?_)
  exact x_X9_isGood_7 _ _ _ _ h
