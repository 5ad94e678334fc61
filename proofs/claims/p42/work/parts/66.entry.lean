theorem cS_end : cS_297 = SH := by decide +kernel
set_option maxHeartbeats 1000000 in
theorem x_law {ξ : xX} {z : Int32 × xM} (h : f_L_law ξ (mOf cL_80) = some z) : X ξ mL_law 0 [.float 3] [] [] (mOf []) 0 0 (xr (some (.int z.1)) SH z.2) := by
  show X ξ mL_law 0 [.float 3] [] cS_0 (mOf cL_0) 0 0 (xr (some (.int z.1)) SH z.2)
  refine X_newC [some none, some none, some none, some none, some none, some none, some none] tyX8 0 cS_1 (mOf cL_0) rfl win_X8 tyX8_ok kN_RL_10 (by decide) (Nat.le_of_ble_eq_true rfl) (Nat.le_of_ble_eq_true rfl) (by decide +kernel) rfl (mOf_n (by decide +kernel)) dL_law_0 ?_
  refine X_dup dL_law_3 rfl ?_
  refine X_iC (μ' := mIX8_148_8411) [] [.ref 0] cS_297 (mOf cL_80) kL_RL_100 kI_mIX8_148_8411 rfl rfl dL_law_4 xI_78 ?_
  refine X_astore_n [.float 3, .ref 0] dL_law_7 (Nat.le_of_ble_eq_true rfl) (Nat.le_of_ble_eq_true rfl) (xcat1_of rfl) rfl ?_
  rw [cS_end]
  exact x_L_law h
