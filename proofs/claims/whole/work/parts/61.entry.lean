theorem cS_end : cS_316 = SH := by decide +kernel
set_option maxHeartbeats 1000000 in
theorem x_law {ξ : xX} {z : Int32 × xM} (h : f_L_law_18 ξ xFU (mOf cL_92) 0 = some z) : X ξ mL_law 0 [.float 3] [] [] (mOf []) 0 0 (xr (some (.int z.1)) SH z.2) := by
  show X ξ mL_law 0 [.float 3] [] cS_0 (mOf cL_0) 0 0 (xr (some (.int z.1)) SH z.2)
  refine X_newC [some none, some none, some none, some none, some none, some none, some none] tyX8 0 cS_1 (mOf cL_0) rfl win_X8 tyX8_ok kN_RL_7 (by decide) (Nat.le_of_ble_eq_true rfl) (Nat.le_of_ble_eq_true rfl) (by decide +kernel) rfl (mOf_n (by decide +kernel)) dL_law_0 ?_
  refine X_dup dL_law_3 rfl ?_
  refine X_iC (μ' := mIX8_148_8411) [] [.ref 0] cS_297 (mOf cL_80) kL_RL_9 kI_mIX8_148_8411 rfl rfl dL_law_4 xI_78 ?_
  refine X_astore_n [.float 3, .ref 0] dL_law_7 (Nat.le_of_ble_eq_true rfl) (Nat.le_of_ble_eq_true rfl) (xcat1_of rfl) rfl ?_
  refine X_newC [some none, some none, none, some none, some none, some none, none, some none, some none, some none, none, none, some none] tyX9 149 cS_298 (mOf cL_80) rfl win_X9 tyX9_ok kN_RL_10 (by decide) (Nat.le_of_ble_eq_true rfl) (Nat.le_of_ble_eq_true rfl) (by decide +kernel) rfl (mOf_n (by decide +kernel)) dL_law_8 ?_
  refine X_dup dL_law_11 rfl ?_
  refine X_iC (μ' := mIX9_9_7430) [] [.ref 149] cS_316 (mOf cL_92) kL_RL_12 kI_mIX9_9_7430 rfl rfl dL_law_12 xI_79 ?_
  refine X_astore_n [.float 3, .ref 0, .ref 149] dL_law_15 (Nat.le_of_ble_eq_true rfl) (Nat.le_of_ble_eq_true rfl) (xcat1_of rfl) rfl ?_
  refine X_iconst 0 dL_law_16 rfl ?_
  refine X_istore_n [.float 3, .ref 0, .ref 149, .int 0] dL_law_17 (Nat.le_of_ble_eq_true rfl) (Nat.le_of_ble_eq_true rfl) (xcat1_of rfl) rfl ?_
  rw [cS_end]
  exact x_L_law_18 _ _ _ _ h
