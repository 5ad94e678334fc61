set_option maxHeartbeats 1000000 in
theorem xI_1 {ξ : xX} : X ξ mIX6_1_56 0 [.ref 2, .int 8, .int 7] [] cS_3 (mOf cL_0) 0 0 (xr none cS_5 (mOf cL_1)) := by
  refine X_aload_n (x := 2) dX6_init_0 rfl ?_
  refine X_obj kO_RX6_1 (Nat.le_of_ble_eq_true rfl) (Nat.le_of_ble_eq_true rfl) dX6_init_1 ?_
  refine X_aload_n (x := 2) dX6_init_4 rfl ?_
  refine X_iconst 0 dX6_init_5 rfl ?_
  refine X_iload_n (x := 8) dX6_init_6 rfl ?_
  refine X_iload_n (x := 7) dX6_init_7 rfl ?_
  refine X_imul dX6_init_8 ?_
  refine X_max kJ_RX6_7 (Nat.le_of_ble_eq_true rfl) (Nat.le_of_ble_eq_true rfl) (Nat.le_of_ble_eq_true rfl) (Nat.le_of_ble_eq_true rfl) dX6_init_9 ?_
  refine X_newaC 0 56 3 cS_4 (mOf cL_0) ⟨rfl, rfl⟩ kA_0 (by decide) (by decide) (Nat.le_of_ble_eq_true rfl) (Nat.le_of_ble_eq_true rfl) (Nat.le_of_ble_eq_true rfl) (by decide +kernel) rfl (mOf_n (by decide +kernel)) dX6_init_12 ?_
  refine X_putFR cS_5 kF_RX6_13 rfl (fun q hq => by cases hq; rfl) (show cS_4[2]? = some (.inr (4, [some none, none, none])) by decide +kernel) rfl (fun _ => rfl) (fun _ => rfl) rfl dX6_init_14 ?_
  refine X_aload_n (x := 2) dX6_init_17 rfl ?_
  refine X_iload_n (x := 7) dX6_init_18 rfl ?_
  refine X_putFIC (mOf cL_1) kF_RX6_19 rfl (fun q hq => by cases hq; rfl) (show cS_5[2]? = some (.inr (4, [some (some 3), none, none])) by decide +kernel) rfl rfl rfl mOf_w dX6_init_19 ?_
  exact X_return dX6_init_22 rfl (Nat.le_refl _) (Nat.le_refl _) ⟨rfl, rfl, rfl⟩
set_option maxHeartbeats 1000000 in
theorem xI_2 {ξ : xX} : X ξ mIX6_1_24 0 [.ref 4, .int 4, .int 6] [] cS_7 (mOf cL_1) 0 0 (xr none cS_9 (mOf cL_2)) := by
  refine X_aload_n (x := 4) dX6_init_0 rfl ?_
  refine X_obj kO_RX6_1 (Nat.le_of_ble_eq_true rfl) (Nat.le_of_ble_eq_true rfl) dX6_init_1 ?_
  refine X_aload_n (x := 4) dX6_init_4 rfl ?_
  refine X_iconst 0 dX6_init_5 rfl ?_
  refine X_iload_n (x := 4) dX6_init_6 rfl ?_
  refine X_iload_n (x := 6) dX6_init_7 rfl ?_
  refine X_imul dX6_init_8 ?_
  refine X_max kJ_RX6_7 (Nat.le_of_ble_eq_true rfl) (Nat.le_of_ble_eq_true rfl) (Nat.le_of_ble_eq_true rfl) (Nat.le_of_ble_eq_true rfl) dX6_init_9 ?_
  refine X_newaC 0 24 5 cS_8 (mOf cL_1) ⟨rfl, rfl⟩ kA_0 (by decide) (by decide) (Nat.le_of_ble_eq_true rfl) (Nat.le_of_ble_eq_true rfl) (Nat.le_of_ble_eq_true rfl) (by decide +kernel) rfl (mOf_n (by decide +kernel)) dX6_init_12 ?_
  refine X_putFR cS_9 kF_RX6_13 rfl (fun q hq => by cases hq; rfl) (show cS_8[4]? = some (.inr (4, [some none, none, none])) by decide +kernel) rfl (fun _ => rfl) (fun _ => rfl) rfl dX6_init_14 ?_
  refine X_aload_n (x := 4) dX6_init_17 rfl ?_
  refine X_iload_n (x := 6) dX6_init_18 rfl ?_
  refine X_putFIC (mOf cL_2) kF_RX6_19 rfl (fun q hq => by cases hq; rfl) (show cS_9[4]? = some (.inr (4, [some (some 5), none, none])) by decide +kernel) rfl rfl rfl mOf_w dX6_init_19 ?_
  exact X_return dX6_init_22 rfl (Nat.le_refl _) (Nat.le_refl _) ⟨rfl, rfl, rfl⟩
set_option maxHeartbeats 1000000 in
theorem xI_3 {ξ : xX} : X ξ mIX6_1_96 0 [.ref 6, .int 16, .int 6] [] cS_11 (mOf cL_2) 0 0 (xr none cS_13 (mOf cL_3)) := by
  refine X_aload_n (x := 6) dX6_init_0 rfl ?_
  refine X_obj kO_RX6_1 (Nat.le_of_ble_eq_true rfl) (Nat.le_of_ble_eq_true rfl) dX6_init_1 ?_
  refine X_aload_n (x := 6) dX6_init_4 rfl ?_
  refine X_iconst 0 dX6_init_5 rfl ?_
  refine X_iload_n (x := 16) dX6_init_6 rfl ?_
  refine X_iload_n (x := 6) dX6_init_7 rfl ?_
  refine X_imul dX6_init_8 ?_
  refine X_max kJ_RX6_7 (Nat.le_of_ble_eq_true rfl) (Nat.le_of_ble_eq_true rfl) (Nat.le_of_ble_eq_true rfl) (Nat.le_of_ble_eq_true rfl) dX6_init_9 ?_
  refine X_newaC 0 96 7 cS_12 (mOf cL_2) ⟨rfl, rfl⟩ kA_0 (by decide) (by decide) (Nat.le_of_ble_eq_true rfl) (Nat.le_of_ble_eq_true rfl) (Nat.le_of_ble_eq_true rfl) (by decide +kernel) rfl (mOf_n (by decide +kernel)) dX6_init_12 ?_
  refine X_putFR cS_13 kF_RX6_13 rfl (fun q hq => by cases hq; rfl) (show cS_12[6]? = some (.inr (4, [some none, none, none])) by decide +kernel) rfl (fun _ => rfl) (fun _ => rfl) rfl dX6_init_14 ?_
  refine X_aload_n (x := 6) dX6_init_17 rfl ?_
  refine X_iload_n (x := 6) dX6_init_18 rfl ?_
  refine X_putFIC (mOf cL_3) kF_RX6_19 rfl (fun q hq => by cases hq; rfl) (show cS_13[6]? = some (.inr (4, [some (some 7), none, none])) by decide +kernel) rfl rfl rfl mOf_w dX6_init_19 ?_
  exact X_return dX6_init_22 rfl (Nat.le_refl _) (Nat.le_refl _) ⟨rfl, rfl, rfl⟩
set_option maxHeartbeats 1000000 in
theorem xI_4 {ξ : xX} : X ξ mIX6_1_256 0 [.ref 8, .int 64, .int 4] [] cS_15 (mOf cL_3) 0 0 (xr none cS_17 (mOf cL_4)) := by
  refine X_aload_n (x := 8) dX6_init_0 rfl ?_
  refine X_obj kO_RX6_1 (Nat.le_of_ble_eq_true rfl) (Nat.le_of_ble_eq_true rfl) dX6_init_1 ?_
  refine X_aload_n (x := 8) dX6_init_4 rfl ?_
  refine X_iconst 0 dX6_init_5 rfl ?_
  refine X_iload_n (x := 64) dX6_init_6 rfl ?_
  refine X_iload_n (x := 4) dX6_init_7 rfl ?_
  refine X_imul dX6_init_8 ?_
  refine X_max kJ_RX6_7 (Nat.le_of_ble_eq_true rfl) (Nat.le_of_ble_eq_true rfl) (Nat.le_of_ble_eq_true rfl) (Nat.le_of_ble_eq_true rfl) dX6_init_9 ?_
  refine X_newaC 0 256 9 cS_16 (mOf cL_3) ⟨rfl, rfl⟩ kA_0 (by decide) (by decide) (Nat.le_of_ble_eq_true rfl) (Nat.le_of_ble_eq_true rfl) (Nat.le_of_ble_eq_true rfl) (by decide +kernel) rfl (mOf_n (by decide +kernel)) dX6_init_12 ?_
  refine X_putFR cS_17 kF_RX6_13 rfl (fun q hq => by cases hq; rfl) (show cS_16[8]? = some (.inr (4, [some none, none, none])) by decide +kernel) rfl (fun _ => rfl) (fun _ => rfl) rfl dX6_init_14 ?_
  refine X_aload_n (x := 8) dX6_init_17 rfl ?_
  refine X_iload_n (x := 4) dX6_init_18 rfl ?_
  refine X_putFIC (mOf cL_4) kF_RX6_19 rfl (fun q hq => by cases hq; rfl) (show cS_17[8]? = some (.inr (4, [some (some 9), none, none])) by decide +kernel) rfl rfl rfl mOf_w dX6_init_19 ?_
  exact X_return dX6_init_22 rfl (Nat.le_refl _) (Nat.le_refl _) ⟨rfl, rfl, rfl⟩
set_option maxHeartbeats 1000000 in
theorem xI_5 {ξ : xX} : X ξ mIX6_1_264 0 [.ref 10, .int 24, .int 11] [] cS_19 (mOf cL_4) 0 0 (xr none cS_21 (mOf cL_5)) := by
  refine X_aload_n (x := 10) dX6_init_0 rfl ?_
  refine X_obj kO_RX6_1 (Nat.le_of_ble_eq_true rfl) (Nat.le_of_ble_eq_true rfl) dX6_init_1 ?_
  refine X_aload_n (x := 10) dX6_init_4 rfl ?_
  refine X_iconst 0 dX6_init_5 rfl ?_
  refine X_iload_n (x := 24) dX6_init_6 rfl ?_
  refine X_iload_n (x := 11) dX6_init_7 rfl ?_
  refine X_imul dX6_init_8 ?_
  refine X_max kJ_RX6_7 (Nat.le_of_ble_eq_true rfl) (Nat.le_of_ble_eq_true rfl) (Nat.le_of_ble_eq_true rfl) (Nat.le_of_ble_eq_true rfl) dX6_init_9 ?_
  refine X_newaC 0 264 11 cS_20 (mOf cL_4) ⟨rfl, rfl⟩ kA_0 (by decide) (by decide) (Nat.le_of_ble_eq_true rfl) (Nat.le_of_ble_eq_true rfl) (Nat.le_of_ble_eq_true rfl) (by decide +kernel) rfl (mOf_n (by decide +kernel)) dX6_init_12 ?_
  refine X_putFR cS_21 kF_RX6_13 rfl (fun q hq => by cases hq; rfl) (show cS_20[10]? = some (.inr (4, [some none, none, none])) by decide +kernel) rfl (fun _ => rfl) (fun _ => rfl) rfl dX6_init_14 ?_
  refine X_aload_n (x := 10) dX6_init_17 rfl ?_
  refine X_iload_n (x := 11) dX6_init_18 rfl ?_
  refine X_putFIC (mOf cL_5) kF_RX6_19 rfl (fun q hq => by cases hq; rfl) (show cS_21[10]? = some (.inr (4, [some (some 11), none, none])) by decide +kernel) rfl rfl rfl mOf_w dX6_init_19 ?_
  exact X_return dX6_init_22 rfl (Nat.le_refl _) (Nat.le_refl _) ⟨rfl, rfl, rfl⟩
set_option maxHeartbeats 1000000 in
theorem xI_6 {ξ : xX} : X ξ mIX6_1_120 0 [.ref 12, .int 24, .int 5] [] cS_23 (mOf cL_5) 0 0 (xr none cS_25 (mOf cL_6)) := by
  refine X_aload_n (x := 12) dX6_init_0 rfl ?_
  refine X_obj kO_RX6_1 (Nat.le_of_ble_eq_true rfl) (Nat.le_of_ble_eq_true rfl) dX6_init_1 ?_
  refine X_aload_n (x := 12) dX6_init_4 rfl ?_
  refine X_iconst 0 dX6_init_5 rfl ?_
  refine X_iload_n (x := 24) dX6_init_6 rfl ?_
  refine X_iload_n (x := 5) dX6_init_7 rfl ?_
  refine X_imul dX6_init_8 ?_
  refine X_max kJ_RX6_7 (Nat.le_of_ble_eq_true rfl) (Nat.le_of_ble_eq_true rfl) (Nat.le_of_ble_eq_true rfl) (Nat.le_of_ble_eq_true rfl) dX6_init_9 ?_
  refine X_newaC 0 120 13 cS_24 (mOf cL_5) ⟨rfl, rfl⟩ kA_0 (by decide) (by decide) (Nat.le_of_ble_eq_true rfl) (Nat.le_of_ble_eq_true rfl) (Nat.le_of_ble_eq_true rfl) (by decide +kernel) rfl (mOf_n (by decide +kernel)) dX6_init_12 ?_
  refine X_putFR cS_25 kF_RX6_13 rfl (fun q hq => by cases hq; rfl) (show cS_24[12]? = some (.inr (4, [some none, none, none])) by decide +kernel) rfl (fun _ => rfl) (fun _ => rfl) rfl dX6_init_14 ?_
  refine X_aload_n (x := 12) dX6_init_17 rfl ?_
  refine X_iload_n (x := 5) dX6_init_18 rfl ?_
  refine X_putFIC (mOf cL_6) kF_RX6_19 rfl (fun q hq => by cases hq; rfl) (show cS_25[12]? = some (.inr (4, [some (some 13), none, none])) by decide +kernel) rfl rfl rfl mOf_w dX6_init_19 ?_
  exact X_return dX6_init_22 rfl (Nat.le_refl _) (Nat.le_refl _) ⟨rfl, rfl, rfl⟩
set_option maxHeartbeats 1000000 in
theorem xI_7 {ξ : xX} : X ξ mIX6_1_160 0 [.ref 14, .int 16, .int 10] [] cS_27 (mOf cL_6) 0 0 (xr none cS_29 (mOf cL_7)) := by
  refine X_aload_n (x := 14) dX6_init_0 rfl ?_
  refine X_obj kO_RX6_1 (Nat.le_of_ble_eq_true rfl) (Nat.le_of_ble_eq_true rfl) dX6_init_1 ?_
  refine X_aload_n (x := 14) dX6_init_4 rfl ?_
  refine X_iconst 0 dX6_init_5 rfl ?_
  refine X_iload_n (x := 16) dX6_init_6 rfl ?_
  refine X_iload_n (x := 10) dX6_init_7 rfl ?_
  refine X_imul dX6_init_8 ?_
  refine X_max kJ_RX6_7 (Nat.le_of_ble_eq_true rfl) (Nat.le_of_ble_eq_true rfl) (Nat.le_of_ble_eq_true rfl) (Nat.le_of_ble_eq_true rfl) dX6_init_9 ?_
  refine X_newaC 0 160 15 cS_28 (mOf cL_6) ⟨rfl, rfl⟩ kA_0 (by decide) (by decide) (Nat.le_of_ble_eq_true rfl) (Nat.le_of_ble_eq_true rfl) (Nat.le_of_ble_eq_true rfl) (by decide +kernel) rfl (mOf_n (by decide +kernel)) dX6_init_12 ?_
  refine X_putFR cS_29 kF_RX6_13 rfl (fun q hq => by cases hq; rfl) (show cS_28[14]? = some (.inr (4, [some none, none, none])) by decide +kernel) rfl (fun _ => rfl) (fun _ => rfl) rfl dX6_init_14 ?_
  refine X_aload_n (x := 14) dX6_init_17 rfl ?_
  refine X_iload_n (x := 10) dX6_init_18 rfl ?_
  refine X_putFIC (mOf cL_7) kF_RX6_19 rfl (fun q hq => by cases hq; rfl) (show cS_29[14]? = some (.inr (4, [some (some 15), none, none])) by decide +kernel) rfl rfl rfl mOf_w dX6_init_19 ?_
  exact X_return dX6_init_22 rfl (Nat.le_refl _) (Nat.le_refl _) ⟨rfl, rfl, rfl⟩
set_option maxHeartbeats 1000000 in
theorem xI_8 {ξ : xX} : X ξ mIX6_1_16 0 [.ref 16, .int 8, .int 2] [] cS_31 (mOf cL_7) 0 0 (xr none cS_33 (mOf cL_8)) := by
  refine X_aload_n (x := 16) dX6_init_0 rfl ?_
  refine X_obj kO_RX6_1 (Nat.le_of_ble_eq_true rfl) (Nat.le_of_ble_eq_true rfl) dX6_init_1 ?_
  refine X_aload_n (x := 16) dX6_init_4 rfl ?_
  refine X_iconst 0 dX6_init_5 rfl ?_
  refine X_iload_n (x := 8) dX6_init_6 rfl ?_
  refine X_iload_n (x := 2) dX6_init_7 rfl ?_
  refine X_imul dX6_init_8 ?_
  refine X_max kJ_RX6_7 (Nat.le_of_ble_eq_true rfl) (Nat.le_of_ble_eq_true rfl) (Nat.le_of_ble_eq_true rfl) (Nat.le_of_ble_eq_true rfl) dX6_init_9 ?_
  refine X_newaC 0 16 17 cS_32 (mOf cL_7) ⟨rfl, rfl⟩ kA_0 (by decide) (by decide) (Nat.le_of_ble_eq_true rfl) (Nat.le_of_ble_eq_true rfl) (Nat.le_of_ble_eq_true rfl) (by decide +kernel) rfl (mOf_n (by decide +kernel)) dX6_init_12 ?_
  refine X_putFR cS_33 kF_RX6_13 rfl (fun q hq => by cases hq; rfl) (show cS_32[16]? = some (.inr (4, [some none, none, none])) by decide +kernel) rfl (fun _ => rfl) (fun _ => rfl) rfl dX6_init_14 ?_
  refine X_aload_n (x := 16) dX6_init_17 rfl ?_
  refine X_iload_n (x := 2) dX6_init_18 rfl ?_
  refine X_putFIC (mOf cL_8) kF_RX6_19 rfl (fun q hq => by cases hq; rfl) (show cS_33[16]? = some (.inr (4, [some (some 17), none, none])) by decide +kernel) rfl rfl rfl mOf_w dX6_init_19 ?_
  exact X_return dX6_init_22 rfl (Nat.le_refl _) (Nat.le_refl _) ⟨rfl, rfl, rfl⟩
set_option maxHeartbeats 1000000 in
theorem xI_9 {ξ : xX} : X ξ mIX5_16_1016 0 [.ref 1] [] cS_2 (mOf cL_0) 0 0 (xr none cS_34 (mOf cL_10)) := by
  refine X_aload_n (x := 1) dX5_init_0 rfl ?_
  refine X_obj kO_RX5_3 (Nat.le_of_ble_eq_true rfl) (Nat.le_of_ble_eq_true rfl) dX5_init_1 ?_
  refine X_aload_n (x := 1) dX5_init_4 rfl ?_
  refine X_newC [some none, none, none] tyX6 2 cS_3 (mOf cL_0) rfl win_X6 tyX6_ok kN_RX5_9 (by decide) (Nat.le_of_ble_eq_true rfl) (Nat.le_of_ble_eq_true rfl) (by decide +kernel) rfl (mOf_n (by decide +kernel)) dX5_init_5 ?_
  refine X_dup dX5_init_8 rfl ?_
  refine X_bipush 8 dX5_init_9 rfl ?_
  refine X_bipush 7 dX5_init_11 rfl ?_
  refine X_iC (μ' := mIX6_1_56) [.int 8, .int 7] [.ref 2, .ref 1] cS_5 (mOf cL_1) kL_RX5_11 kI_mIX6_1_56 rfl rfl dX5_init_13 xI_1 ?_
  refine X_putFR cS_6 kF_RX5_14 rfl (fun q hq => by cases hq; rfl) (show cS_5[1]? = some (.inr (3, [some none, some none, some none, some none, some none, some none, some none, some none, none, none])) by decide +kernel) rfl (fun _ => rfl) (fun _ => rfl) rfl dX5_init_16 ?_
  refine X_aload_n (x := 1) dX5_init_19 rfl ?_
  refine X_newC [some none, none, none] tyX6 4 cS_7 (mOf cL_1) rfl win_X6 tyX6_ok kN_RX5_9 (by decide) (Nat.le_of_ble_eq_true rfl) (Nat.le_of_ble_eq_true rfl) (by decide +kernel) rfl (mOf_n (by decide +kernel)) dX5_init_20 ?_
  refine X_dup dX5_init_23 rfl ?_
  refine X_iconst 4 dX5_init_24 rfl ?_
  refine X_bipush 6 dX5_init_25 rfl ?_
  refine X_iC (μ' := mIX6_1_24) [.int 4, .int 6] [.ref 4, .ref 1] cS_9 (mOf cL_2) kL_RX5_11 kI_mIX6_1_24 rfl rfl dX5_init_27 xI_2 ?_
  refine X_putFR cS_10 kF_RX5_20 rfl (fun q hq => by cases hq; rfl) (show cS_9[1]? = some (.inr (3, [some (some 2), some none, some none, some none, some none, some none, some none, some none, none, none])) by decide +kernel) rfl (fun _ => rfl) (fun _ => rfl) rfl dX5_init_30 ?_
  refine X_aload_n (x := 1) dX5_init_33 rfl ?_
  refine X_newC [some none, none, none] tyX6 6 cS_11 (mOf cL_2) rfl win_X6 tyX6_ok kN_RX5_9 (by decide) (Nat.le_of_ble_eq_true rfl) (Nat.le_of_ble_eq_true rfl) (by decide +kernel) rfl (mOf_n (by decide +kernel)) dX5_init_34 ?_
  refine X_dup dX5_init_37 rfl ?_
  refine X_bipush 16 dX5_init_38 rfl ?_
  refine X_bipush 6 dX5_init_40 rfl ?_
  refine X_iC (μ' := mIX6_1_96) [.int 16, .int 6] [.ref 6, .ref 1] cS_13 (mOf cL_3) kL_RX5_11 kI_mIX6_1_96 rfl rfl dX5_init_42 xI_3 ?_
  refine X_putFR cS_14 kF_RX5_23 rfl (fun q hq => by cases hq; rfl) (show cS_13[1]? = some (.inr (3, [some (some 2), some (some 4), some none, some none, some none, some none, some none, some none, none, none])) by decide +kernel) rfl (fun _ => rfl) (fun _ => rfl) rfl dX5_init_45 ?_
  refine X_aload_n (x := 1) dX5_init_48 rfl ?_
  refine X_newC [some none, none, none] tyX6 8 cS_15 (mOf cL_3) rfl win_X6 tyX6_ok kN_RX5_9 (by decide) (Nat.le_of_ble_eq_true rfl) (Nat.le_of_ble_eq_true rfl) (by decide +kernel) rfl (mOf_n (by decide +kernel)) dX5_init_49 ?_
  refine X_dup dX5_init_52 rfl ?_
  refine X_bipush 64 dX5_init_53 rfl ?_
  refine X_iconst 4 dX5_init_55 rfl ?_
  refine X_iC (μ' := mIX6_1_256) [.int 64, .int 4] [.ref 8, .ref 1] cS_17 (mOf cL_4) kL_RX5_11 kI_mIX6_1_256 rfl rfl dX5_init_56 xI_4 ?_
  refine X_putFR cS_18 kF_RX5_26 rfl (fun q hq => by cases hq; rfl) (show cS_17[1]? = some (.inr (3, [some (some 2), some (some 4), some (some 6), some none, some none, some none, some none, some none, none, none])) by decide +kernel) rfl (fun _ => rfl) (fun _ => rfl) rfl dX5_init_59 ?_
  refine X_aload_n (x := 1) dX5_init_62 rfl ?_
  refine X_newC [some none, none, none] tyX6 10 cS_19 (mOf cL_4) rfl win_X6 tyX6_ok kN_RX5_9 (by decide) (Nat.le_of_ble_eq_true rfl) (Nat.le_of_ble_eq_true rfl) (by decide +kernel) rfl (mOf_n (by decide +kernel)) dX5_init_63 ?_
  refine X_dup dX5_init_66 rfl ?_
  refine X_bipush 24 dX5_init_67 rfl ?_
  refine X_bipush 11 dX5_init_69 rfl ?_
  refine X_iC (μ' := mIX6_1_264) [.int 24, .int 11] [.ref 10, .ref 1] cS_21 (mOf cL_5) kL_RX5_11 kI_mIX6_1_264 rfl rfl dX5_init_71 xI_5 ?_
  refine X_putFR cS_22 kF_RX5_29 rfl (fun q hq => by cases hq; rfl) (show cS_21[1]? = some (.inr (3, [some (some 2), some (some 4), some (some 6), some (some 8), some none, some none, some none, some none, none, none])) by decide +kernel) rfl (fun _ => rfl) (fun _ => rfl) rfl dX5_init_74 ?_
  refine X_aload_n (x := 1) dX5_init_77 rfl ?_
  refine X_newC [some none, none, none] tyX6 12 cS_23 (mOf cL_5) rfl win_X6 tyX6_ok kN_RX5_9 (by decide) (Nat.le_of_ble_eq_true rfl) (Nat.le_of_ble_eq_true rfl) (by decide +kernel) rfl (mOf_n (by decide +kernel)) dX5_init_78 ?_
  refine X_dup dX5_init_81 rfl ?_
  refine X_bipush 24 dX5_init_82 rfl ?_
  refine X_iconst 5 dX5_init_84 rfl ?_
  refine X_iC (μ' := mIX6_1_120) [.int 24, .int 5] [.ref 12, .ref 1] cS_25 (mOf cL_6) kL_RX5_11 kI_mIX6_1_120 rfl rfl dX5_init_85 xI_6 ?_
  refine X_putFR cS_26 kF_RX5_32 rfl (fun q hq => by cases hq; rfl) (show cS_25[1]? = some (.inr (3, [some (some 2), some (some 4), some (some 6), some (some 8), some (some 10), some none, some none, some none, none, none])) by decide +kernel) rfl (fun _ => rfl) (fun _ => rfl) rfl dX5_init_88 ?_
  refine X_aload_n (x := 1) dX5_init_91 rfl ?_
  refine X_newC [some none, none, none] tyX6 14 cS_27 (mOf cL_6) rfl win_X6 tyX6_ok kN_RX5_9 (by decide) (Nat.le_of_ble_eq_true rfl) (Nat.le_of_ble_eq_true rfl) (by decide +kernel) rfl (mOf_n (by decide +kernel)) dX5_init_92 ?_
  refine X_dup dX5_init_95 rfl ?_
  refine X_bipush 16 dX5_init_96 rfl ?_
  refine X_bipush 10 dX5_init_98 rfl ?_
  refine X_iC (μ' := mIX6_1_160) [.int 16, .int 10] [.ref 14, .ref 1] cS_29 (mOf cL_7) kL_RX5_11 kI_mIX6_1_160 rfl rfl dX5_init_100 xI_7 ?_
  refine X_putFR cS_30 kF_RX5_35 rfl (fun q hq => by cases hq; rfl) (show cS_29[1]? = some (.inr (3, [some (some 2), some (some 4), some (some 6), some (some 8), some (some 10), some (some 12), some none, some none, none, none])) by decide +kernel) rfl (fun _ => rfl) (fun _ => rfl) rfl dX5_init_103 ?_
  refine X_aload_n (x := 1) dX5_init_106 rfl ?_
  refine X_newC [some none, none, none] tyX6 16 cS_31 (mOf cL_7) rfl win_X6 tyX6_ok kN_RX5_9 (by decide) (Nat.le_of_ble_eq_true rfl) (Nat.le_of_ble_eq_true rfl) (by decide +kernel) rfl (mOf_n (by decide +kernel)) dX5_init_107 ?_
  refine X_dup dX5_init_110 rfl ?_
  refine X_bipush 8 dX5_init_111 rfl ?_
  refine X_iconst 2 dX5_init_113 rfl ?_
  refine X_iC (μ' := mIX6_1_16) [.int 8, .int 2] [.ref 16, .ref 1] cS_33 (mOf cL_8) kL_RX5_11 kI_mIX6_1_16 rfl rfl dX5_init_114 xI_8 ?_
  refine X_putFR cS_34 kF_RX5_38 rfl (fun q hq => by cases hq; rfl) (show cS_33[1]? = some (.inr (3, [some (some 2), some (some 4), some (some 6), some (some 8), some (some 10), some (some 12), some (some 14), some none, none, none])) by decide +kernel) rfl (fun _ => rfl) (fun _ => rfl) rfl dX5_init_117 ?_
  refine X_aload_n (x := 1) dX5_init_120 rfl ?_
  refine X_get (v := .ref 8) kF_RX5_26 (show cS_34[1]? = some (.inr (3, [some (some 2), some (some 4), some (some 6), some (some 8), some (some 10), some (some 12), some (some 14), some (some 16), none, none])) by decide +kernel) rfl rfl dX5_init_121 ?_
  refine X_bipush 64 dX5_init_124 rfl ?_
  refine X_putIC (mOf cL_9) kF_RX5_41 (show cS_34[8]? = some (.inr (4, [some (some 9), none, none])) by decide +kernel) rfl rfl rfl mOf_w dX5_init_126 ?_
  refine X_aload_n (x := 1) dX5_init_129 rfl ?_
  refine X_get (v := .ref 16) kF_RX5_38 (show cS_34[1]? = some (.inr (3, [some (some 2), some (some 4), some (some 6), some (some 8), some (some 10), some (some 12), some (some 14), some (some 16), none, none])) by decide +kernel) rfl rfl dX5_init_130 ?_
  refine X_bipush 8 dX5_init_133 rfl ?_
  refine X_putIC (mOf cL_10) kF_RX5_41 (show cS_34[16]? = some (.inr (4, [some (some 17), none, none])) by decide +kernel) rfl rfl rfl mOf_w dX5_init_135 ?_
  exact X_return dX5_init_138 rfl (Nat.le_refl _) (Nat.le_refl _) ⟨rfl, rfl, rfl⟩
set_option maxHeartbeats 1000000 in
theorem xI_10 {ξ : xX} : X ξ mIX6_1_56 0 [.ref 21, .int 8, .int 7] [] cS_40 (mOf cL_10) 0 0 (xr none cS_42 (mOf cL_11)) := by
  refine X_aload_n (x := 21) dX6_init_0 rfl ?_
  refine X_obj kO_RX6_1 (Nat.le_of_ble_eq_true rfl) (Nat.le_of_ble_eq_true rfl) dX6_init_1 ?_
  refine X_aload_n (x := 21) dX6_init_4 rfl ?_
  refine X_iconst 0 dX6_init_5 rfl ?_
  refine X_iload_n (x := 8) dX6_init_6 rfl ?_
  refine X_iload_n (x := 7) dX6_init_7 rfl ?_
  refine X_imul dX6_init_8 ?_
  refine X_max kJ_RX6_7 (Nat.le_of_ble_eq_true rfl) (Nat.le_of_ble_eq_true rfl) (Nat.le_of_ble_eq_true rfl) (Nat.le_of_ble_eq_true rfl) dX6_init_9 ?_
  refine X_newaC 0 56 22 cS_41 (mOf cL_10) ⟨rfl, rfl⟩ kA_0 (by decide) (by decide) (Nat.le_of_ble_eq_true rfl) (Nat.le_of_ble_eq_true rfl) (Nat.le_of_ble_eq_true rfl) (by decide +kernel) rfl (mOf_n (by decide +kernel)) dX6_init_12 ?_
  refine X_putFR cS_42 kF_RX6_13 rfl (fun q hq => by cases hq; rfl) (show cS_41[21]? = some (.inr (4, [some none, none, none])) by decide +kernel) rfl (fun _ => rfl) (fun _ => rfl) rfl dX6_init_14 ?_
  refine X_aload_n (x := 21) dX6_init_17 rfl ?_
  refine X_iload_n (x := 7) dX6_init_18 rfl ?_
  refine X_putFIC (mOf cL_11) kF_RX6_19 rfl (fun q hq => by cases hq; rfl) (show cS_42[21]? = some (.inr (4, [some (some 22), none, none])) by decide +kernel) rfl rfl rfl mOf_w dX6_init_19 ?_
  exact X_return dX6_init_22 rfl (Nat.le_refl _) (Nat.le_refl _) ⟨rfl, rfl, rfl⟩
set_option maxHeartbeats 1000000 in
theorem xI_11 {ξ : xX} : X ξ mIX6_1_24 0 [.ref 23, .int 4, .int 6] [] cS_44 (mOf cL_11) 0 0 (xr none cS_46 (mOf cL_12)) := by
  refine X_aload_n (x := 23) dX6_init_0 rfl ?_
  refine X_obj kO_RX6_1 (Nat.le_of_ble_eq_true rfl) (Nat.le_of_ble_eq_true rfl) dX6_init_1 ?_
  refine X_aload_n (x := 23) dX6_init_4 rfl ?_
  refine X_iconst 0 dX6_init_5 rfl ?_
  refine X_iload_n (x := 4) dX6_init_6 rfl ?_
  refine X_iload_n (x := 6) dX6_init_7 rfl ?_
  refine X_imul dX6_init_8 ?_
  refine X_max kJ_RX6_7 (Nat.le_of_ble_eq_true rfl) (Nat.le_of_ble_eq_true rfl) (Nat.le_of_ble_eq_true rfl) (Nat.le_of_ble_eq_true rfl) dX6_init_9 ?_
  refine X_newaC 0 24 24 cS_45 (mOf cL_11) ⟨rfl, rfl⟩ kA_0 (by decide) (by decide) (Nat.le_of_ble_eq_true rfl) (Nat.le_of_ble_eq_true rfl) (Nat.le_of_ble_eq_true rfl) (by decide +kernel) rfl (mOf_n (by decide +kernel)) dX6_init_12 ?_
  refine X_putFR cS_46 kF_RX6_13 rfl (fun q hq => by cases hq; rfl) (show cS_45[23]? = some (.inr (4, [some none, none, none])) by decide +kernel) rfl (fun _ => rfl) (fun _ => rfl) rfl dX6_init_14 ?_
  refine X_aload_n (x := 23) dX6_init_17 rfl ?_
  refine X_iload_n (x := 6) dX6_init_18 rfl ?_
  refine X_putFIC (mOf cL_12) kF_RX6_19 rfl (fun q hq => by cases hq; rfl) (show cS_46[23]? = some (.inr (4, [some (some 24), none, none])) by decide +kernel) rfl rfl rfl mOf_w dX6_init_19 ?_
  exact X_return dX6_init_22 rfl (Nat.le_refl _) (Nat.le_refl _) ⟨rfl, rfl, rfl⟩
set_option maxHeartbeats 1000000 in
theorem xI_12 {ξ : xX} : X ξ mIX6_1_96 0 [.ref 25, .int 16, .int 6] [] cS_48 (mOf cL_12) 0 0 (xr none cS_50 (mOf cL_13)) := by
  refine X_aload_n (x := 25) dX6_init_0 rfl ?_
  refine X_obj kO_RX6_1 (Nat.le_of_ble_eq_true rfl) (Nat.le_of_ble_eq_true rfl) dX6_init_1 ?_
  refine X_aload_n (x := 25) dX6_init_4 rfl ?_
  refine X_iconst 0 dX6_init_5 rfl ?_
  refine X_iload_n (x := 16) dX6_init_6 rfl ?_
  refine X_iload_n (x := 6) dX6_init_7 rfl ?_
  refine X_imul dX6_init_8 ?_
  refine X_max kJ_RX6_7 (Nat.le_of_ble_eq_true rfl) (Nat.le_of_ble_eq_true rfl) (Nat.le_of_ble_eq_true rfl) (Nat.le_of_ble_eq_true rfl) dX6_init_9 ?_
  refine X_newaC 0 96 26 cS_49 (mOf cL_12) ⟨rfl, rfl⟩ kA_0 (by decide) (by decide) (Nat.le_of_ble_eq_true rfl) (Nat.le_of_ble_eq_true rfl) (Nat.le_of_ble_eq_true rfl) (by decide +kernel) rfl (mOf_n (by decide +kernel)) dX6_init_12 ?_
  refine X_putFR cS_50 kF_RX6_13 rfl (fun q hq => by cases hq; rfl) (show cS_49[25]? = some (.inr (4, [some none, none, none])) by decide +kernel) rfl (fun _ => rfl) (fun _ => rfl) rfl dX6_init_14 ?_
  refine X_aload_n (x := 25) dX6_init_17 rfl ?_
  refine X_iload_n (x := 6) dX6_init_18 rfl ?_
  refine X_putFIC (mOf cL_13) kF_RX6_19 rfl (fun q hq => by cases hq; rfl) (show cS_50[25]? = some (.inr (4, [some (some 26), none, none])) by decide +kernel) rfl rfl rfl mOf_w dX6_init_19 ?_
  exact X_return dX6_init_22 rfl (Nat.le_refl _) (Nat.le_refl _) ⟨rfl, rfl, rfl⟩
set_option maxHeartbeats 1000000 in
theorem xI_13 {ξ : xX} : X ξ mIX6_1_256 0 [.ref 27, .int 64, .int 4] [] cS_52 (mOf cL_13) 0 0 (xr none cS_54 (mOf cL_14)) := by
  refine X_aload_n (x := 27) dX6_init_0 rfl ?_
  refine X_obj kO_RX6_1 (Nat.le_of_ble_eq_true rfl) (Nat.le_of_ble_eq_true rfl) dX6_init_1 ?_
  refine X_aload_n (x := 27) dX6_init_4 rfl ?_
  refine X_iconst 0 dX6_init_5 rfl ?_
  refine X_iload_n (x := 64) dX6_init_6 rfl ?_
  refine X_iload_n (x := 4) dX6_init_7 rfl ?_
  refine X_imul dX6_init_8 ?_
  refine X_max kJ_RX6_7 (Nat.le_of_ble_eq_true rfl) (Nat.le_of_ble_eq_true rfl) (Nat.le_of_ble_eq_true rfl) (Nat.le_of_ble_eq_true rfl) dX6_init_9 ?_
  refine X_newaC 0 256 28 cS_53 (mOf cL_13) ⟨rfl, rfl⟩ kA_0 (by decide) (by decide) (Nat.le_of_ble_eq_true rfl) (Nat.le_of_ble_eq_true rfl) (Nat.le_of_ble_eq_true rfl) (by decide +kernel) rfl (mOf_n (by decide +kernel)) dX6_init_12 ?_
  refine X_putFR cS_54 kF_RX6_13 rfl (fun q hq => by cases hq; rfl) (show cS_53[27]? = some (.inr (4, [some none, none, none])) by decide +kernel) rfl (fun _ => rfl) (fun _ => rfl) rfl dX6_init_14 ?_
  refine X_aload_n (x := 27) dX6_init_17 rfl ?_
  refine X_iload_n (x := 4) dX6_init_18 rfl ?_
  refine X_putFIC (mOf cL_14) kF_RX6_19 rfl (fun q hq => by cases hq; rfl) (show cS_54[27]? = some (.inr (4, [some (some 28), none, none])) by decide +kernel) rfl rfl rfl mOf_w dX6_init_19 ?_
  exact X_return dX6_init_22 rfl (Nat.le_refl _) (Nat.le_refl _) ⟨rfl, rfl, rfl⟩
set_option maxHeartbeats 1000000 in
theorem xI_14 {ξ : xX} : X ξ mIX6_1_264 0 [.ref 29, .int 24, .int 11] [] cS_56 (mOf cL_14) 0 0 (xr none cS_58 (mOf cL_15)) := by
  refine X_aload_n (x := 29) dX6_init_0 rfl ?_
  refine X_obj kO_RX6_1 (Nat.le_of_ble_eq_true rfl) (Nat.le_of_ble_eq_true rfl) dX6_init_1 ?_
  refine X_aload_n (x := 29) dX6_init_4 rfl ?_
  refine X_iconst 0 dX6_init_5 rfl ?_
  refine X_iload_n (x := 24) dX6_init_6 rfl ?_
  refine X_iload_n (x := 11) dX6_init_7 rfl ?_
  refine X_imul dX6_init_8 ?_
  refine X_max kJ_RX6_7 (Nat.le_of_ble_eq_true rfl) (Nat.le_of_ble_eq_true rfl) (Nat.le_of_ble_eq_true rfl) (Nat.le_of_ble_eq_true rfl) dX6_init_9 ?_
  refine X_newaC 0 264 30 cS_57 (mOf cL_14) ⟨rfl, rfl⟩ kA_0 (by decide) (by decide) (Nat.le_of_ble_eq_true rfl) (Nat.le_of_ble_eq_true rfl) (Nat.le_of_ble_eq_true rfl) (by decide +kernel) rfl (mOf_n (by decide +kernel)) dX6_init_12 ?_
  refine X_putFR cS_58 kF_RX6_13 rfl (fun q hq => by cases hq; rfl) (show cS_57[29]? = some (.inr (4, [some none, none, none])) by decide +kernel) rfl (fun _ => rfl) (fun _ => rfl) rfl dX6_init_14 ?_
  refine X_aload_n (x := 29) dX6_init_17 rfl ?_
  refine X_iload_n (x := 11) dX6_init_18 rfl ?_
  refine X_putFIC (mOf cL_15) kF_RX6_19 rfl (fun q hq => by cases hq; rfl) (show cS_58[29]? = some (.inr (4, [some (some 30), none, none])) by decide +kernel) rfl rfl rfl mOf_w dX6_init_19 ?_
  exact X_return dX6_init_22 rfl (Nat.le_refl _) (Nat.le_refl _) ⟨rfl, rfl, rfl⟩
set_option maxHeartbeats 1000000 in
theorem xI_15 {ξ : xX} : X ξ mIX6_1_120 0 [.ref 31, .int 24, .int 5] [] cS_60 (mOf cL_15) 0 0 (xr none cS_62 (mOf cL_16)) := by
  refine X_aload_n (x := 31) dX6_init_0 rfl ?_
  refine X_obj kO_RX6_1 (Nat.le_of_ble_eq_true rfl) (Nat.le_of_ble_eq_true rfl) dX6_init_1 ?_
  refine X_aload_n (x := 31) dX6_init_4 rfl ?_
  refine X_iconst 0 dX6_init_5 rfl ?_
  refine X_iload_n (x := 24) dX6_init_6 rfl ?_
  refine X_iload_n (x := 5) dX6_init_7 rfl ?_
  refine X_imul dX6_init_8 ?_
  refine X_max kJ_RX6_7 (Nat.le_of_ble_eq_true rfl) (Nat.le_of_ble_eq_true rfl) (Nat.le_of_ble_eq_true rfl) (Nat.le_of_ble_eq_true rfl) dX6_init_9 ?_
  refine X_newaC 0 120 32 cS_61 (mOf cL_15) ⟨rfl, rfl⟩ kA_0 (by decide) (by decide) (Nat.le_of_ble_eq_true rfl) (Nat.le_of_ble_eq_true rfl) (Nat.le_of_ble_eq_true rfl) (by decide +kernel) rfl (mOf_n (by decide +kernel)) dX6_init_12 ?_
  refine X_putFR cS_62 kF_RX6_13 rfl (fun q hq => by cases hq; rfl) (show cS_61[31]? = some (.inr (4, [some none, none, none])) by decide +kernel) rfl (fun _ => rfl) (fun _ => rfl) rfl dX6_init_14 ?_
  refine X_aload_n (x := 31) dX6_init_17 rfl ?_
  refine X_iload_n (x := 5) dX6_init_18 rfl ?_
  refine X_putFIC (mOf cL_16) kF_RX6_19 rfl (fun q hq => by cases hq; rfl) (show cS_62[31]? = some (.inr (4, [some (some 32), none, none])) by decide +kernel) rfl rfl rfl mOf_w dX6_init_19 ?_
  exact X_return dX6_init_22 rfl (Nat.le_refl _) (Nat.le_refl _) ⟨rfl, rfl, rfl⟩
set_option maxHeartbeats 1000000 in
theorem xI_16 {ξ : xX} : X ξ mIX6_1_160 0 [.ref 33, .int 16, .int 10] [] cS_64 (mOf cL_16) 0 0 (xr none cS_66 (mOf cL_17)) := by
  refine X_aload_n (x := 33) dX6_init_0 rfl ?_
  refine X_obj kO_RX6_1 (Nat.le_of_ble_eq_true rfl) (Nat.le_of_ble_eq_true rfl) dX6_init_1 ?_
  refine X_aload_n (x := 33) dX6_init_4 rfl ?_
  refine X_iconst 0 dX6_init_5 rfl ?_
  refine X_iload_n (x := 16) dX6_init_6 rfl ?_
  refine X_iload_n (x := 10) dX6_init_7 rfl ?_
  refine X_imul dX6_init_8 ?_
  refine X_max kJ_RX6_7 (Nat.le_of_ble_eq_true rfl) (Nat.le_of_ble_eq_true rfl) (Nat.le_of_ble_eq_true rfl) (Nat.le_of_ble_eq_true rfl) dX6_init_9 ?_
  refine X_newaC 0 160 34 cS_65 (mOf cL_16) ⟨rfl, rfl⟩ kA_0 (by decide) (by decide) (Nat.le_of_ble_eq_true rfl) (Nat.le_of_ble_eq_true rfl) (Nat.le_of_ble_eq_true rfl) (by decide +kernel) rfl (mOf_n (by decide +kernel)) dX6_init_12 ?_
  refine X_putFR cS_66 kF_RX6_13 rfl (fun q hq => by cases hq; rfl) (show cS_65[33]? = some (.inr (4, [some none, none, none])) by decide +kernel) rfl (fun _ => rfl) (fun _ => rfl) rfl dX6_init_14 ?_
  refine X_aload_n (x := 33) dX6_init_17 rfl ?_
  refine X_iload_n (x := 10) dX6_init_18 rfl ?_
  refine X_putFIC (mOf cL_17) kF_RX6_19 rfl (fun q hq => by cases hq; rfl) (show cS_66[33]? = some (.inr (4, [some (some 34), none, none])) by decide +kernel) rfl rfl rfl mOf_w dX6_init_19 ?_
  exact X_return dX6_init_22 rfl (Nat.le_refl _) (Nat.le_refl _) ⟨rfl, rfl, rfl⟩
set_option maxHeartbeats 1000000 in
theorem xI_17 {ξ : xX} : X ξ mIX6_1_16 0 [.ref 35, .int 8, .int 2] [] cS_68 (mOf cL_17) 0 0 (xr none cS_70 (mOf cL_18)) := by
  refine X_aload_n (x := 35) dX6_init_0 rfl ?_
  refine X_obj kO_RX6_1 (Nat.le_of_ble_eq_true rfl) (Nat.le_of_ble_eq_true rfl) dX6_init_1 ?_
  refine X_aload_n (x := 35) dX6_init_4 rfl ?_
  refine X_iconst 0 dX6_init_5 rfl ?_
  refine X_iload_n (x := 8) dX6_init_6 rfl ?_
  refine X_iload_n (x := 2) dX6_init_7 rfl ?_
  refine X_imul dX6_init_8 ?_
  refine X_max kJ_RX6_7 (Nat.le_of_ble_eq_true rfl) (Nat.le_of_ble_eq_true rfl) (Nat.le_of_ble_eq_true rfl) (Nat.le_of_ble_eq_true rfl) dX6_init_9 ?_
  refine X_newaC 0 16 36 cS_69 (mOf cL_17) ⟨rfl, rfl⟩ kA_0 (by decide) (by decide) (Nat.le_of_ble_eq_true rfl) (Nat.le_of_ble_eq_true rfl) (Nat.le_of_ble_eq_true rfl) (by decide +kernel) rfl (mOf_n (by decide +kernel)) dX6_init_12 ?_
  refine X_putFR cS_70 kF_RX6_13 rfl (fun q hq => by cases hq; rfl) (show cS_69[35]? = some (.inr (4, [some none, none, none])) by decide +kernel) rfl (fun _ => rfl) (fun _ => rfl) rfl dX6_init_14 ?_
  refine X_aload_n (x := 35) dX6_init_17 rfl ?_
  refine X_iload_n (x := 2) dX6_init_18 rfl ?_
  refine X_putFIC (mOf cL_18) kF_RX6_19 rfl (fun q hq => by cases hq; rfl) (show cS_70[35]? = some (.inr (4, [some (some 36), none, none])) by decide +kernel) rfl rfl rfl mOf_w dX6_init_19 ?_
  exact X_return dX6_init_22 rfl (Nat.le_refl _) (Nat.le_refl _) ⟨rfl, rfl, rfl⟩
set_option maxHeartbeats 1000000 in
theorem xI_18 {ξ : xX} : X ξ mIX5_16_1016 0 [.ref 20] [] cS_39 (mOf cL_10) 0 0 (xr none cS_71 (mOf cL_20)) := by
  refine X_aload_n (x := 20) dX5_init_0 rfl ?_
  refine X_obj kO_RX5_3 (Nat.le_of_ble_eq_true rfl) (Nat.le_of_ble_eq_true rfl) dX5_init_1 ?_
  refine X_aload_n (x := 20) dX5_init_4 rfl ?_
  refine X_newC [some none, none, none] tyX6 21 cS_40 (mOf cL_10) rfl win_X6 tyX6_ok kN_RX5_9 (by decide) (Nat.le_of_ble_eq_true rfl) (Nat.le_of_ble_eq_true rfl) (by decide +kernel) rfl (mOf_n (by decide +kernel)) dX5_init_5 ?_
  refine X_dup dX5_init_8 rfl ?_
  refine X_bipush 8 dX5_init_9 rfl ?_
  refine X_bipush 7 dX5_init_11 rfl ?_
  refine X_iC (μ' := mIX6_1_56) [.int 8, .int 7] [.ref 21, .ref 20] cS_42 (mOf cL_11) kL_RX5_11 kI_mIX6_1_56 rfl rfl dX5_init_13 xI_10 ?_
  refine X_putFR cS_43 kF_RX5_14 rfl (fun q hq => by cases hq; rfl) (show cS_42[20]? = some (.inr (3, [some none, some none, some none, some none, some none, some none, some none, some none, none, none])) by decide +kernel) rfl (fun _ => rfl) (fun _ => rfl) rfl dX5_init_16 ?_
  refine X_aload_n (x := 20) dX5_init_19 rfl ?_
  refine X_newC [some none, none, none] tyX6 23 cS_44 (mOf cL_11) rfl win_X6 tyX6_ok kN_RX5_9 (by decide) (Nat.le_of_ble_eq_true rfl) (Nat.le_of_ble_eq_true rfl) (by decide +kernel) rfl (mOf_n (by decide +kernel)) dX5_init_20 ?_
  refine X_dup dX5_init_23 rfl ?_
  refine X_iconst 4 dX5_init_24 rfl ?_
  refine X_bipush 6 dX5_init_25 rfl ?_
  refine X_iC (μ' := mIX6_1_24) [.int 4, .int 6] [.ref 23, .ref 20] cS_46 (mOf cL_12) kL_RX5_11 kI_mIX6_1_24 rfl rfl dX5_init_27 xI_11 ?_
  refine X_putFR cS_47 kF_RX5_20 rfl (fun q hq => by cases hq; rfl) (show cS_46[20]? = some (.inr (3, [some (some 21), some none, some none, some none, some none, some none, some none, some none, none, none])) by decide +kernel) rfl (fun _ => rfl) (fun _ => rfl) rfl dX5_init_30 ?_
  refine X_aload_n (x := 20) dX5_init_33 rfl ?_
  refine X_newC [some none, none, none] tyX6 25 cS_48 (mOf cL_12) rfl win_X6 tyX6_ok kN_RX5_9 (by decide) (Nat.le_of_ble_eq_true rfl) (Nat.le_of_ble_eq_true rfl) (by decide +kernel) rfl (mOf_n (by decide +kernel)) dX5_init_34 ?_
  refine X_dup dX5_init_37 rfl ?_
  refine X_bipush 16 dX5_init_38 rfl ?_
  refine X_bipush 6 dX5_init_40 rfl ?_
  refine X_iC (μ' := mIX6_1_96) [.int 16, .int 6] [.ref 25, .ref 20] cS_50 (mOf cL_13) kL_RX5_11 kI_mIX6_1_96 rfl rfl dX5_init_42 xI_12 ?_
  refine X_putFR cS_51 kF_RX5_23 rfl (fun q hq => by cases hq; rfl) (show cS_50[20]? = some (.inr (3, [some (some 21), some (some 23), some none, some none, some none, some none, some none, some none, none, none])) by decide +kernel) rfl (fun _ => rfl) (fun _ => rfl) rfl dX5_init_45 ?_
  refine X_aload_n (x := 20) dX5_init_48 rfl ?_
  refine X_newC [some none, none, none] tyX6 27 cS_52 (mOf cL_13) rfl win_X6 tyX6_ok kN_RX5_9 (by decide) (Nat.le_of_ble_eq_true rfl) (Nat.le_of_ble_eq_true rfl) (by decide +kernel) rfl (mOf_n (by decide +kernel)) dX5_init_49 ?_
  refine X_dup dX5_init_52 rfl ?_
  refine X_bipush 64 dX5_init_53 rfl ?_
  refine X_iconst 4 dX5_init_55 rfl ?_
  refine X_iC (μ' := mIX6_1_256) [.int 64, .int 4] [.ref 27, .ref 20] cS_54 (mOf cL_14) kL_RX5_11 kI_mIX6_1_256 rfl rfl dX5_init_56 xI_13 ?_
  refine X_putFR cS_55 kF_RX5_26 rfl (fun q hq => by cases hq; rfl) (show cS_54[20]? = some (.inr (3, [some (some 21), some (some 23), some (some 25), some none, some none, some none, some none, some none, none, none])) by decide +kernel) rfl (fun _ => rfl) (fun _ => rfl) rfl dX5_init_59 ?_
  refine X_aload_n (x := 20) dX5_init_62 rfl ?_
  refine X_newC [some none, none, none] tyX6 29 cS_56 (mOf cL_14) rfl win_X6 tyX6_ok kN_RX5_9 (by decide) (Nat.le_of_ble_eq_true rfl) (Nat.le_of_ble_eq_true rfl) (by decide +kernel) rfl (mOf_n (by decide +kernel)) dX5_init_63 ?_
  refine X_dup dX5_init_66 rfl ?_
  refine X_bipush 24 dX5_init_67 rfl ?_
  refine X_bipush 11 dX5_init_69 rfl ?_
  refine X_iC (μ' := mIX6_1_264) [.int 24, .int 11] [.ref 29, .ref 20] cS_58 (mOf cL_15) kL_RX5_11 kI_mIX6_1_264 rfl rfl dX5_init_71 xI_14 ?_
  refine X_putFR cS_59 kF_RX5_29 rfl (fun q hq => by cases hq; rfl) (show cS_58[20]? = some (.inr (3, [some (some 21), some (some 23), some (some 25), some (some 27), some none, some none, some none, some none, none, none])) by decide +kernel) rfl (fun _ => rfl) (fun _ => rfl) rfl dX5_init_74 ?_
  refine X_aload_n (x := 20) dX5_init_77 rfl ?_
  refine X_newC [some none, none, none] tyX6 31 cS_60 (mOf cL_15) rfl win_X6 tyX6_ok kN_RX5_9 (by decide) (Nat.le_of_ble_eq_true rfl) (Nat.le_of_ble_eq_true rfl) (by decide +kernel) rfl (mOf_n (by decide +kernel)) dX5_init_78 ?_
  refine X_dup dX5_init_81 rfl ?_
  refine X_bipush 24 dX5_init_82 rfl ?_
  refine X_iconst 5 dX5_init_84 rfl ?_
  refine X_iC (μ' := mIX6_1_120) [.int 24, .int 5] [.ref 31, .ref 20] cS_62 (mOf cL_16) kL_RX5_11 kI_mIX6_1_120 rfl rfl dX5_init_85 xI_15 ?_
  refine X_putFR cS_63 kF_RX5_32 rfl (fun q hq => by cases hq; rfl) (show cS_62[20]? = some (.inr (3, [some (some 21), some (some 23), some (some 25), some (some 27), some (some 29), some none, some none, some none, none, none])) by decide +kernel) rfl (fun _ => rfl) (fun _ => rfl) rfl dX5_init_88 ?_
  refine X_aload_n (x := 20) dX5_init_91 rfl ?_
  refine X_newC [some none, none, none] tyX6 33 cS_64 (mOf cL_16) rfl win_X6 tyX6_ok kN_RX5_9 (by decide) (Nat.le_of_ble_eq_true rfl) (Nat.le_of_ble_eq_true rfl) (by decide +kernel) rfl (mOf_n (by decide +kernel)) dX5_init_92 ?_
  refine X_dup dX5_init_95 rfl ?_
  refine X_bipush 16 dX5_init_96 rfl ?_
  refine X_bipush 10 dX5_init_98 rfl ?_
  refine X_iC (μ' := mIX6_1_160) [.int 16, .int 10] [.ref 33, .ref 20] cS_66 (mOf cL_17) kL_RX5_11 kI_mIX6_1_160 rfl rfl dX5_init_100 xI_16 ?_
  refine X_putFR cS_67 kF_RX5_35 rfl (fun q hq => by cases hq; rfl) (show cS_66[20]? = some (.inr (3, [some (some 21), some (some 23), some (some 25), some (some 27), some (some 29), some (some 31), some none, some none, none, none])) by decide +kernel) rfl (fun _ => rfl) (fun _ => rfl) rfl dX5_init_103 ?_
  refine X_aload_n (x := 20) dX5_init_106 rfl ?_
  refine X_newC [some none, none, none] tyX6 35 cS_68 (mOf cL_17) rfl win_X6 tyX6_ok kN_RX5_9 (by decide) (Nat.le_of_ble_eq_true rfl) (Nat.le_of_ble_eq_true rfl) (by decide +kernel) rfl (mOf_n (by decide +kernel)) dX5_init_107 ?_
  refine X_dup dX5_init_110 rfl ?_
  refine X_bipush 8 dX5_init_111 rfl ?_
  refine X_iconst 2 dX5_init_113 rfl ?_
  refine X_iC (μ' := mIX6_1_16) [.int 8, .int 2] [.ref 35, .ref 20] cS_70 (mOf cL_18) kL_RX5_11 kI_mIX6_1_16 rfl rfl dX5_init_114 xI_17 ?_
  refine X_putFR cS_71 kF_RX5_38 rfl (fun q hq => by cases hq; rfl) (show cS_70[20]? = some (.inr (3, [some (some 21), some (some 23), some (some 25), some (some 27), some (some 29), some (some 31), some (some 33), some none, none, none])) by decide +kernel) rfl (fun _ => rfl) (fun _ => rfl) rfl dX5_init_117 ?_
  refine X_aload_n (x := 20) dX5_init_120 rfl ?_
  refine X_get (v := .ref 27) kF_RX5_26 (show cS_71[20]? = some (.inr (3, [some (some 21), some (some 23), some (some 25), some (some 27), some (some 29), some (some 31), some (some 33), some (some 35), none, none])) by decide +kernel) rfl rfl dX5_init_121 ?_
  refine X_bipush 64 dX5_init_124 rfl ?_
  refine X_putIC (mOf cL_19) kF_RX5_41 (show cS_71[27]? = some (.inr (4, [some (some 28), none, none])) by decide +kernel) rfl rfl rfl mOf_w dX5_init_126 ?_
  refine X_aload_n (x := 20) dX5_init_129 rfl ?_
  refine X_get (v := .ref 35) kF_RX5_38 (show cS_71[20]? = some (.inr (3, [some (some 21), some (some 23), some (some 25), some (some 27), some (some 29), some (some 31), some (some 33), some (some 35), none, none])) by decide +kernel) rfl rfl dX5_init_130 ?_
  refine X_bipush 8 dX5_init_133 rfl ?_
  refine X_putIC (mOf cL_20) kF_RX5_41 (show cS_71[35]? = some (.inr (4, [some (some 36), none, none])) by decide +kernel) rfl rfl rfl mOf_w dX5_init_135 ?_
  exact X_return dX5_init_138 rfl (Nat.le_refl _) (Nat.le_refl _) ⟨rfl, rfl, rfl⟩
set_option maxHeartbeats 1000000 in
theorem xI_19 {ξ : xX} : X ξ mIX6_1_56 0 [.ref 38, .int 8, .int 7] [] cS_74 (mOf cL_20) 0 0 (xr none cS_76 (mOf cL_21)) := by
  refine X_aload_n (x := 38) dX6_init_0 rfl ?_
  refine X_obj kO_RX6_1 (Nat.le_of_ble_eq_true rfl) (Nat.le_of_ble_eq_true rfl) dX6_init_1 ?_
  refine X_aload_n (x := 38) dX6_init_4 rfl ?_
  refine X_iconst 0 dX6_init_5 rfl ?_
  refine X_iload_n (x := 8) dX6_init_6 rfl ?_
  refine X_iload_n (x := 7) dX6_init_7 rfl ?_
  refine X_imul dX6_init_8 ?_
  refine X_max kJ_RX6_7 (Nat.le_of_ble_eq_true rfl) (Nat.le_of_ble_eq_true rfl) (Nat.le_of_ble_eq_true rfl) (Nat.le_of_ble_eq_true rfl) dX6_init_9 ?_
  refine X_newaC 0 56 39 cS_75 (mOf cL_20) ⟨rfl, rfl⟩ kA_0 (by decide) (by decide) (Nat.le_of_ble_eq_true rfl) (Nat.le_of_ble_eq_true rfl) (Nat.le_of_ble_eq_true rfl) (by decide +kernel) rfl (mOf_n (by decide +kernel)) dX6_init_12 ?_
  refine X_putFR cS_76 kF_RX6_13 rfl (fun q hq => by cases hq; rfl) (show cS_75[38]? = some (.inr (4, [some none, none, none])) by decide +kernel) rfl (fun _ => rfl) (fun _ => rfl) rfl dX6_init_14 ?_
  refine X_aload_n (x := 38) dX6_init_17 rfl ?_
  refine X_iload_n (x := 7) dX6_init_18 rfl ?_
  refine X_putFIC (mOf cL_21) kF_RX6_19 rfl (fun q hq => by cases hq; rfl) (show cS_76[38]? = some (.inr (4, [some (some 39), none, none])) by decide +kernel) rfl rfl rfl mOf_w dX6_init_19 ?_
  exact X_return dX6_init_22 rfl (Nat.le_refl _) (Nat.le_refl _) ⟨rfl, rfl, rfl⟩
set_option maxHeartbeats 1000000 in
theorem xI_20 {ξ : xX} : X ξ mIX6_1_24 0 [.ref 40, .int 4, .int 6] [] cS_78 (mOf cL_21) 0 0 (xr none cS_80 (mOf cL_22)) := by
  refine X_aload_n (x := 40) dX6_init_0 rfl ?_
  refine X_obj kO_RX6_1 (Nat.le_of_ble_eq_true rfl) (Nat.le_of_ble_eq_true rfl) dX6_init_1 ?_
  refine X_aload_n (x := 40) dX6_init_4 rfl ?_
  refine X_iconst 0 dX6_init_5 rfl ?_
  refine X_iload_n (x := 4) dX6_init_6 rfl ?_
  refine X_iload_n (x := 6) dX6_init_7 rfl ?_
  refine X_imul dX6_init_8 ?_
  refine X_max kJ_RX6_7 (Nat.le_of_ble_eq_true rfl) (Nat.le_of_ble_eq_true rfl) (Nat.le_of_ble_eq_true rfl) (Nat.le_of_ble_eq_true rfl) dX6_init_9 ?_
  refine X_newaC 0 24 41 cS_79 (mOf cL_21) ⟨rfl, rfl⟩ kA_0 (by decide) (by decide) (Nat.le_of_ble_eq_true rfl) (Nat.le_of_ble_eq_true rfl) (Nat.le_of_ble_eq_true rfl) (by decide +kernel) rfl (mOf_n (by decide +kernel)) dX6_init_12 ?_
  refine X_putFR cS_80 kF_RX6_13 rfl (fun q hq => by cases hq; rfl) (show cS_79[40]? = some (.inr (4, [some none, none, none])) by decide +kernel) rfl (fun _ => rfl) (fun _ => rfl) rfl dX6_init_14 ?_
  refine X_aload_n (x := 40) dX6_init_17 rfl ?_
  refine X_iload_n (x := 6) dX6_init_18 rfl ?_
  refine X_putFIC (mOf cL_22) kF_RX6_19 rfl (fun q hq => by cases hq; rfl) (show cS_80[40]? = some (.inr (4, [some (some 41), none, none])) by decide +kernel) rfl rfl rfl mOf_w dX6_init_19 ?_
  exact X_return dX6_init_22 rfl (Nat.le_refl _) (Nat.le_refl _) ⟨rfl, rfl, rfl⟩
set_option maxHeartbeats 1000000 in
theorem xI_21 {ξ : xX} : X ξ mIX6_1_96 0 [.ref 42, .int 16, .int 6] [] cS_82 (mOf cL_22) 0 0 (xr none cS_84 (mOf cL_23)) := by
  refine X_aload_n (x := 42) dX6_init_0 rfl ?_
  refine X_obj kO_RX6_1 (Nat.le_of_ble_eq_true rfl) (Nat.le_of_ble_eq_true rfl) dX6_init_1 ?_
  refine X_aload_n (x := 42) dX6_init_4 rfl ?_
  refine X_iconst 0 dX6_init_5 rfl ?_
  refine X_iload_n (x := 16) dX6_init_6 rfl ?_
  refine X_iload_n (x := 6) dX6_init_7 rfl ?_
  refine X_imul dX6_init_8 ?_
  refine X_max kJ_RX6_7 (Nat.le_of_ble_eq_true rfl) (Nat.le_of_ble_eq_true rfl) (Nat.le_of_ble_eq_true rfl) (Nat.le_of_ble_eq_true rfl) dX6_init_9 ?_
  refine X_newaC 0 96 43 cS_83 (mOf cL_22) ⟨rfl, rfl⟩ kA_0 (by decide) (by decide) (Nat.le_of_ble_eq_true rfl) (Nat.le_of_ble_eq_true rfl) (Nat.le_of_ble_eq_true rfl) (by decide +kernel) rfl (mOf_n (by decide +kernel)) dX6_init_12 ?_
  refine X_putFR cS_84 kF_RX6_13 rfl (fun q hq => by cases hq; rfl) (show cS_83[42]? = some (.inr (4, [some none, none, none])) by decide +kernel) rfl (fun _ => rfl) (fun _ => rfl) rfl dX6_init_14 ?_
  refine X_aload_n (x := 42) dX6_init_17 rfl ?_
  refine X_iload_n (x := 6) dX6_init_18 rfl ?_
  refine X_putFIC (mOf cL_23) kF_RX6_19 rfl (fun q hq => by cases hq; rfl) (show cS_84[42]? = some (.inr (4, [some (some 43), none, none])) by decide +kernel) rfl rfl rfl mOf_w dX6_init_19 ?_
  exact X_return dX6_init_22 rfl (Nat.le_refl _) (Nat.le_refl _) ⟨rfl, rfl, rfl⟩
set_option maxHeartbeats 1000000 in
theorem xI_22 {ξ : xX} : X ξ mIX6_1_256 0 [.ref 44, .int 64, .int 4] [] cS_86 (mOf cL_23) 0 0 (xr none cS_88 (mOf cL_24)) := by
  refine X_aload_n (x := 44) dX6_init_0 rfl ?_
  refine X_obj kO_RX6_1 (Nat.le_of_ble_eq_true rfl) (Nat.le_of_ble_eq_true rfl) dX6_init_1 ?_
  refine X_aload_n (x := 44) dX6_init_4 rfl ?_
  refine X_iconst 0 dX6_init_5 rfl ?_
  refine X_iload_n (x := 64) dX6_init_6 rfl ?_
  refine X_iload_n (x := 4) dX6_init_7 rfl ?_
  refine X_imul dX6_init_8 ?_
  refine X_max kJ_RX6_7 (Nat.le_of_ble_eq_true rfl) (Nat.le_of_ble_eq_true rfl) (Nat.le_of_ble_eq_true rfl) (Nat.le_of_ble_eq_true rfl) dX6_init_9 ?_
  refine X_newaC 0 256 45 cS_87 (mOf cL_23) ⟨rfl, rfl⟩ kA_0 (by decide) (by decide) (Nat.le_of_ble_eq_true rfl) (Nat.le_of_ble_eq_true rfl) (Nat.le_of_ble_eq_true rfl) (by decide +kernel) rfl (mOf_n (by decide +kernel)) dX6_init_12 ?_
  refine X_putFR cS_88 kF_RX6_13 rfl (fun q hq => by cases hq; rfl) (show cS_87[44]? = some (.inr (4, [some none, none, none])) by decide +kernel) rfl (fun _ => rfl) (fun _ => rfl) rfl dX6_init_14 ?_
  refine X_aload_n (x := 44) dX6_init_17 rfl ?_
  refine X_iload_n (x := 4) dX6_init_18 rfl ?_
  refine X_putFIC (mOf cL_24) kF_RX6_19 rfl (fun q hq => by cases hq; rfl) (show cS_88[44]? = some (.inr (4, [some (some 45), none, none])) by decide +kernel) rfl rfl rfl mOf_w dX6_init_19 ?_
  exact X_return dX6_init_22 rfl (Nat.le_refl _) (Nat.le_refl _) ⟨rfl, rfl, rfl⟩
set_option maxHeartbeats 1000000 in
theorem xI_23 {ξ : xX} : X ξ mIX6_1_264 0 [.ref 46, .int 24, .int 11] [] cS_90 (mOf cL_24) 0 0 (xr none cS_92 (mOf cL_25)) := by
  refine X_aload_n (x := 46) dX6_init_0 rfl ?_
  refine X_obj kO_RX6_1 (Nat.le_of_ble_eq_true rfl) (Nat.le_of_ble_eq_true rfl) dX6_init_1 ?_
  refine X_aload_n (x := 46) dX6_init_4 rfl ?_
  refine X_iconst 0 dX6_init_5 rfl ?_
  refine X_iload_n (x := 24) dX6_init_6 rfl ?_
  refine X_iload_n (x := 11) dX6_init_7 rfl ?_
  refine X_imul dX6_init_8 ?_
  refine X_max kJ_RX6_7 (Nat.le_of_ble_eq_true rfl) (Nat.le_of_ble_eq_true rfl) (Nat.le_of_ble_eq_true rfl) (Nat.le_of_ble_eq_true rfl) dX6_init_9 ?_
  refine X_newaC 0 264 47 cS_91 (mOf cL_24) ⟨rfl, rfl⟩ kA_0 (by decide) (by decide) (Nat.le_of_ble_eq_true rfl) (Nat.le_of_ble_eq_true rfl) (Nat.le_of_ble_eq_true rfl) (by decide +kernel) rfl (mOf_n (by decide +kernel)) dX6_init_12 ?_
  refine X_putFR cS_92 kF_RX6_13 rfl (fun q hq => by cases hq; rfl) (show cS_91[46]? = some (.inr (4, [some none, none, none])) by decide +kernel) rfl (fun _ => rfl) (fun _ => rfl) rfl dX6_init_14 ?_
  refine X_aload_n (x := 46) dX6_init_17 rfl ?_
  refine X_iload_n (x := 11) dX6_init_18 rfl ?_
  refine X_putFIC (mOf cL_25) kF_RX6_19 rfl (fun q hq => by cases hq; rfl) (show cS_92[46]? = some (.inr (4, [some (some 47), none, none])) by decide +kernel) rfl rfl rfl mOf_w dX6_init_19 ?_
  exact X_return dX6_init_22 rfl (Nat.le_refl _) (Nat.le_refl _) ⟨rfl, rfl, rfl⟩
set_option maxHeartbeats 1000000 in
theorem xI_24 {ξ : xX} : X ξ mIX6_1_120 0 [.ref 48, .int 24, .int 5] [] cS_94 (mOf cL_25) 0 0 (xr none cS_96 (mOf cL_26)) := by
  refine X_aload_n (x := 48) dX6_init_0 rfl ?_
  refine X_obj kO_RX6_1 (Nat.le_of_ble_eq_true rfl) (Nat.le_of_ble_eq_true rfl) dX6_init_1 ?_
  refine X_aload_n (x := 48) dX6_init_4 rfl ?_
  refine X_iconst 0 dX6_init_5 rfl ?_
  refine X_iload_n (x := 24) dX6_init_6 rfl ?_
  refine X_iload_n (x := 5) dX6_init_7 rfl ?_
  refine X_imul dX6_init_8 ?_
  refine X_max kJ_RX6_7 (Nat.le_of_ble_eq_true rfl) (Nat.le_of_ble_eq_true rfl) (Nat.le_of_ble_eq_true rfl) (Nat.le_of_ble_eq_true rfl) dX6_init_9 ?_
  refine X_newaC 0 120 49 cS_95 (mOf cL_25) ⟨rfl, rfl⟩ kA_0 (by decide) (by decide) (Nat.le_of_ble_eq_true rfl) (Nat.le_of_ble_eq_true rfl) (Nat.le_of_ble_eq_true rfl) (by decide +kernel) rfl (mOf_n (by decide +kernel)) dX6_init_12 ?_
  refine X_putFR cS_96 kF_RX6_13 rfl (fun q hq => by cases hq; rfl) (show cS_95[48]? = some (.inr (4, [some none, none, none])) by decide +kernel) rfl (fun _ => rfl) (fun _ => rfl) rfl dX6_init_14 ?_
  refine X_aload_n (x := 48) dX6_init_17 rfl ?_
  refine X_iload_n (x := 5) dX6_init_18 rfl ?_
  refine X_putFIC (mOf cL_26) kF_RX6_19 rfl (fun q hq => by cases hq; rfl) (show cS_96[48]? = some (.inr (4, [some (some 49), none, none])) by decide +kernel) rfl rfl rfl mOf_w dX6_init_19 ?_
  exact X_return dX6_init_22 rfl (Nat.le_refl _) (Nat.le_refl _) ⟨rfl, rfl, rfl⟩
set_option maxHeartbeats 1000000 in
theorem xI_25 {ξ : xX} : X ξ mIX6_1_160 0 [.ref 50, .int 16, .int 10] [] cS_98 (mOf cL_26) 0 0 (xr none cS_100 (mOf cL_27)) := by
  refine X_aload_n (x := 50) dX6_init_0 rfl ?_
  refine X_obj kO_RX6_1 (Nat.le_of_ble_eq_true rfl) (Nat.le_of_ble_eq_true rfl) dX6_init_1 ?_
  refine X_aload_n (x := 50) dX6_init_4 rfl ?_
  refine X_iconst 0 dX6_init_5 rfl ?_
  refine X_iload_n (x := 16) dX6_init_6 rfl ?_
  refine X_iload_n (x := 10) dX6_init_7 rfl ?_
  refine X_imul dX6_init_8 ?_
  refine X_max kJ_RX6_7 (Nat.le_of_ble_eq_true rfl) (Nat.le_of_ble_eq_true rfl) (Nat.le_of_ble_eq_true rfl) (Nat.le_of_ble_eq_true rfl) dX6_init_9 ?_
  refine X_newaC 0 160 51 cS_99 (mOf cL_26) ⟨rfl, rfl⟩ kA_0 (by decide) (by decide) (Nat.le_of_ble_eq_true rfl) (Nat.le_of_ble_eq_true rfl) (Nat.le_of_ble_eq_true rfl) (by decide +kernel) rfl (mOf_n (by decide +kernel)) dX6_init_12 ?_
  refine X_putFR cS_100 kF_RX6_13 rfl (fun q hq => by cases hq; rfl) (show cS_99[50]? = some (.inr (4, [some none, none, none])) by decide +kernel) rfl (fun _ => rfl) (fun _ => rfl) rfl dX6_init_14 ?_
  refine X_aload_n (x := 50) dX6_init_17 rfl ?_
  refine X_iload_n (x := 10) dX6_init_18 rfl ?_
  refine X_putFIC (mOf cL_27) kF_RX6_19 rfl (fun q hq => by cases hq; rfl) (show cS_100[50]? = some (.inr (4, [some (some 51), none, none])) by decide +kernel) rfl rfl rfl mOf_w dX6_init_19 ?_
  exact X_return dX6_init_22 rfl (Nat.le_refl _) (Nat.le_refl _) ⟨rfl, rfl, rfl⟩
set_option maxHeartbeats 1000000 in
theorem xI_26 {ξ : xX} : X ξ mIX6_1_16 0 [.ref 52, .int 8, .int 2] [] cS_102 (mOf cL_27) 0 0 (xr none cS_104 (mOf cL_28)) := by
  refine X_aload_n (x := 52) dX6_init_0 rfl ?_
  refine X_obj kO_RX6_1 (Nat.le_of_ble_eq_true rfl) (Nat.le_of_ble_eq_true rfl) dX6_init_1 ?_
  refine X_aload_n (x := 52) dX6_init_4 rfl ?_
  refine X_iconst 0 dX6_init_5 rfl ?_
  refine X_iload_n (x := 8) dX6_init_6 rfl ?_
  refine X_iload_n (x := 2) dX6_init_7 rfl ?_
  refine X_imul dX6_init_8 ?_
  refine X_max kJ_RX6_7 (Nat.le_of_ble_eq_true rfl) (Nat.le_of_ble_eq_true rfl) (Nat.le_of_ble_eq_true rfl) (Nat.le_of_ble_eq_true rfl) dX6_init_9 ?_
  refine X_newaC 0 16 53 cS_103 (mOf cL_27) ⟨rfl, rfl⟩ kA_0 (by decide) (by decide) (Nat.le_of_ble_eq_true rfl) (Nat.le_of_ble_eq_true rfl) (Nat.le_of_ble_eq_true rfl) (by decide +kernel) rfl (mOf_n (by decide +kernel)) dX6_init_12 ?_
  refine X_putFR cS_104 kF_RX6_13 rfl (fun q hq => by cases hq; rfl) (show cS_103[52]? = some (.inr (4, [some none, none, none])) by decide +kernel) rfl (fun _ => rfl) (fun _ => rfl) rfl dX6_init_14 ?_
  refine X_aload_n (x := 52) dX6_init_17 rfl ?_
  refine X_iload_n (x := 2) dX6_init_18 rfl ?_
  refine X_putFIC (mOf cL_28) kF_RX6_19 rfl (fun q hq => by cases hq; rfl) (show cS_104[52]? = some (.inr (4, [some (some 53), none, none])) by decide +kernel) rfl rfl rfl mOf_w dX6_init_19 ?_
  exact X_return dX6_init_22 rfl (Nat.le_refl _) (Nat.le_refl _) ⟨rfl, rfl, rfl⟩
set_option maxHeartbeats 1000000 in
theorem xI_27 {ξ : xX} : X ξ mIX5_16_1016 0 [.ref 37] [] cS_73 (mOf cL_20) 0 0 (xr none cS_105 (mOf cL_30)) := by
  refine X_aload_n (x := 37) dX5_init_0 rfl ?_
  refine X_obj kO_RX5_3 (Nat.le_of_ble_eq_true rfl) (Nat.le_of_ble_eq_true rfl) dX5_init_1 ?_
  refine X_aload_n (x := 37) dX5_init_4 rfl ?_
  refine X_newC [some none, none, none] tyX6 38 cS_74 (mOf cL_20) rfl win_X6 tyX6_ok kN_RX5_9 (by decide) (Nat.le_of_ble_eq_true rfl) (Nat.le_of_ble_eq_true rfl) (by decide +kernel) rfl (mOf_n (by decide +kernel)) dX5_init_5 ?_
  refine X_dup dX5_init_8 rfl ?_
  refine X_bipush 8 dX5_init_9 rfl ?_
  refine X_bipush 7 dX5_init_11 rfl ?_
  refine X_iC (μ' := mIX6_1_56) [.int 8, .int 7] [.ref 38, .ref 37] cS_76 (mOf cL_21) kL_RX5_11 kI_mIX6_1_56 rfl rfl dX5_init_13 xI_19 ?_
  refine X_putFR cS_77 kF_RX5_14 rfl (fun q hq => by cases hq; rfl) (show cS_76[37]? = some (.inr (3, [some none, some none, some none, some none, some none, some none, some none, some none, none, none])) by decide +kernel) rfl (fun _ => rfl) (fun _ => rfl) rfl dX5_init_16 ?_
  refine X_aload_n (x := 37) dX5_init_19 rfl ?_
  refine X_newC [some none, none, none] tyX6 40 cS_78 (mOf cL_21) rfl win_X6 tyX6_ok kN_RX5_9 (by decide) (Nat.le_of_ble_eq_true rfl) (Nat.le_of_ble_eq_true rfl) (by decide +kernel) rfl (mOf_n (by decide +kernel)) dX5_init_20 ?_
  refine X_dup dX5_init_23 rfl ?_
  refine X_iconst 4 dX5_init_24 rfl ?_
  refine X_bipush 6 dX5_init_25 rfl ?_
  refine X_iC (μ' := mIX6_1_24) [.int 4, .int 6] [.ref 40, .ref 37] cS_80 (mOf cL_22) kL_RX5_11 kI_mIX6_1_24 rfl rfl dX5_init_27 xI_20 ?_
  refine X_putFR cS_81 kF_RX5_20 rfl (fun q hq => by cases hq; rfl) (show cS_80[37]? = some (.inr (3, [some (some 38), some none, some none, some none, some none, some none, some none, some none, none, none])) by decide +kernel) rfl (fun _ => rfl) (fun _ => rfl) rfl dX5_init_30 ?_
  refine X_aload_n (x := 37) dX5_init_33 rfl ?_
  refine X_newC [some none, none, none] tyX6 42 cS_82 (mOf cL_22) rfl win_X6 tyX6_ok kN_RX5_9 (by decide) (Nat.le_of_ble_eq_true rfl) (Nat.le_of_ble_eq_true rfl) (by decide +kernel) rfl (mOf_n (by decide +kernel)) dX5_init_34 ?_
  refine X_dup dX5_init_37 rfl ?_
  refine X_bipush 16 dX5_init_38 rfl ?_
  refine X_bipush 6 dX5_init_40 rfl ?_
  refine X_iC (μ' := mIX6_1_96) [.int 16, .int 6] [.ref 42, .ref 37] cS_84 (mOf cL_23) kL_RX5_11 kI_mIX6_1_96 rfl rfl dX5_init_42 xI_21 ?_
  refine X_putFR cS_85 kF_RX5_23 rfl (fun q hq => by cases hq; rfl) (show cS_84[37]? = some (.inr (3, [some (some 38), some (some 40), some none, some none, some none, some none, some none, some none, none, none])) by decide +kernel) rfl (fun _ => rfl) (fun _ => rfl) rfl dX5_init_45 ?_
  refine X_aload_n (x := 37) dX5_init_48 rfl ?_
  refine X_newC [some none, none, none] tyX6 44 cS_86 (mOf cL_23) rfl win_X6 tyX6_ok kN_RX5_9 (by decide) (Nat.le_of_ble_eq_true rfl) (Nat.le_of_ble_eq_true rfl) (by decide +kernel) rfl (mOf_n (by decide +kernel)) dX5_init_49 ?_
  refine X_dup dX5_init_52 rfl ?_
  refine X_bipush 64 dX5_init_53 rfl ?_
  refine X_iconst 4 dX5_init_55 rfl ?_
  refine X_iC (μ' := mIX6_1_256) [.int 64, .int 4] [.ref 44, .ref 37] cS_88 (mOf cL_24) kL_RX5_11 kI_mIX6_1_256 rfl rfl dX5_init_56 xI_22 ?_
  refine X_putFR cS_89 kF_RX5_26 rfl (fun q hq => by cases hq; rfl) (show cS_88[37]? = some (.inr (3, [some (some 38), some (some 40), some (some 42), some none, some none, some none, some none, some none, none, none])) by decide +kernel) rfl (fun _ => rfl) (fun _ => rfl) rfl dX5_init_59 ?_
  refine X_aload_n (x := 37) dX5_init_62 rfl ?_
  refine X_newC [some none, none, none] tyX6 46 cS_90 (mOf cL_24) rfl win_X6 tyX6_ok kN_RX5_9 (by decide) (Nat.le_of_ble_eq_true rfl) (Nat.le_of_ble_eq_true rfl) (by decide +kernel) rfl (mOf_n (by decide +kernel)) dX5_init_63 ?_
  refine X_dup dX5_init_66 rfl ?_
  refine X_bipush 24 dX5_init_67 rfl ?_
  refine X_bipush 11 dX5_init_69 rfl ?_
  refine X_iC (μ' := mIX6_1_264) [.int 24, .int 11] [.ref 46, .ref 37] cS_92 (mOf cL_25) kL_RX5_11 kI_mIX6_1_264 rfl rfl dX5_init_71 xI_23 ?_
  refine X_putFR cS_93 kF_RX5_29 rfl (fun q hq => by cases hq; rfl) (show cS_92[37]? = some (.inr (3, [some (some 38), some (some 40), some (some 42), some (some 44), some none, some none, some none, some none, none, none])) by decide +kernel) rfl (fun _ => rfl) (fun _ => rfl) rfl dX5_init_74 ?_
  refine X_aload_n (x := 37) dX5_init_77 rfl ?_
  refine X_newC [some none, none, none] tyX6 48 cS_94 (mOf cL_25) rfl win_X6 tyX6_ok kN_RX5_9 (by decide) (Nat.le_of_ble_eq_true rfl) (Nat.le_of_ble_eq_true rfl) (by decide +kernel) rfl (mOf_n (by decide +kernel)) dX5_init_78 ?_
  refine X_dup dX5_init_81 rfl ?_
  refine X_bipush 24 dX5_init_82 rfl ?_
  refine X_iconst 5 dX5_init_84 rfl ?_
  refine X_iC (μ' := mIX6_1_120) [.int 24, .int 5] [.ref 48, .ref 37] cS_96 (mOf cL_26) kL_RX5_11 kI_mIX6_1_120 rfl rfl dX5_init_85 xI_24 ?_
  refine X_putFR cS_97 kF_RX5_32 rfl (fun q hq => by cases hq; rfl) (show cS_96[37]? = some (.inr (3, [some (some 38), some (some 40), some (some 42), some (some 44), some (some 46), some none, some none, some none, none, none])) by decide +kernel) rfl (fun _ => rfl) (fun _ => rfl) rfl dX5_init_88 ?_
  refine X_aload_n (x := 37) dX5_init_91 rfl ?_
  refine X_newC [some none, none, none] tyX6 50 cS_98 (mOf cL_26) rfl win_X6 tyX6_ok kN_RX5_9 (by decide) (Nat.le_of_ble_eq_true rfl) (Nat.le_of_ble_eq_true rfl) (by decide +kernel) rfl (mOf_n (by decide +kernel)) dX5_init_92 ?_
  refine X_dup dX5_init_95 rfl ?_
  refine X_bipush 16 dX5_init_96 rfl ?_
  refine X_bipush 10 dX5_init_98 rfl ?_
  refine X_iC (μ' := mIX6_1_160) [.int 16, .int 10] [.ref 50, .ref 37] cS_100 (mOf cL_27) kL_RX5_11 kI_mIX6_1_160 rfl rfl dX5_init_100 xI_25 ?_
  refine X_putFR cS_101 kF_RX5_35 rfl (fun q hq => by cases hq; rfl) (show cS_100[37]? = some (.inr (3, [some (some 38), some (some 40), some (some 42), some (some 44), some (some 46), some (some 48), some none, some none, none, none])) by decide +kernel) rfl (fun _ => rfl) (fun _ => rfl) rfl dX5_init_103 ?_
  refine X_aload_n (x := 37) dX5_init_106 rfl ?_
  refine X_newC [some none, none, none] tyX6 52 cS_102 (mOf cL_27) rfl win_X6 tyX6_ok kN_RX5_9 (by decide) (Nat.le_of_ble_eq_true rfl) (Nat.le_of_ble_eq_true rfl) (by decide +kernel) rfl (mOf_n (by decide +kernel)) dX5_init_107 ?_
  refine X_dup dX5_init_110 rfl ?_
  refine X_bipush 8 dX5_init_111 rfl ?_
  refine X_iconst 2 dX5_init_113 rfl ?_
  refine X_iC (μ' := mIX6_1_16) [.int 8, .int 2] [.ref 52, .ref 37] cS_104 (mOf cL_28) kL_RX5_11 kI_mIX6_1_16 rfl rfl dX5_init_114 xI_26 ?_
  refine X_putFR cS_105 kF_RX5_38 rfl (fun q hq => by cases hq; rfl) (show cS_104[37]? = some (.inr (3, [some (some 38), some (some 40), some (some 42), some (some 44), some (some 46), some (some 48), some (some 50), some none, none, none])) by decide +kernel) rfl (fun _ => rfl) (fun _ => rfl) rfl dX5_init_117 ?_
  refine X_aload_n (x := 37) dX5_init_120 rfl ?_
  refine X_get (v := .ref 44) kF_RX5_26 (show cS_105[37]? = some (.inr (3, [some (some 38), some (some 40), some (some 42), some (some 44), some (some 46), some (some 48), some (some 50), some (some 52), none, none])) by decide +kernel) rfl rfl dX5_init_121 ?_
  refine X_bipush 64 dX5_init_124 rfl ?_
  refine X_putIC (mOf cL_29) kF_RX5_41 (show cS_105[44]? = some (.inr (4, [some (some 45), none, none])) by decide +kernel) rfl rfl rfl mOf_w dX5_init_126 ?_
  refine X_aload_n (x := 37) dX5_init_129 rfl ?_
  refine X_get (v := .ref 52) kF_RX5_38 (show cS_105[37]? = some (.inr (3, [some (some 38), some (some 40), some (some 42), some (some 44), some (some 46), some (some 48), some (some 50), some (some 52), none, none])) by decide +kernel) rfl rfl dX5_init_130 ?_
  refine X_bipush 8 dX5_init_133 rfl ?_
  refine X_putIC (mOf cL_30) kF_RX5_41 (show cS_105[52]? = some (.inr (4, [some (some 53), none, none])) by decide +kernel) rfl rfl rfl mOf_w dX5_init_135 ?_
  exact X_return dX5_init_138 rfl (Nat.le_refl _) (Nat.le_refl _) ⟨rfl, rfl, rfl⟩
set_option maxHeartbeats 1000000 in
theorem xI_28 {ξ : xX} : X ξ mIX6_1_56 0 [.ref 55, .int 8, .int 7] [] cS_108 (mOf cL_30) 0 0 (xr none cS_110 (mOf cL_31)) := by
  refine X_aload_n (x := 55) dX6_init_0 rfl ?_
  refine X_obj kO_RX6_1 (Nat.le_of_ble_eq_true rfl) (Nat.le_of_ble_eq_true rfl) dX6_init_1 ?_
  refine X_aload_n (x := 55) dX6_init_4 rfl ?_
  refine X_iconst 0 dX6_init_5 rfl ?_
  refine X_iload_n (x := 8) dX6_init_6 rfl ?_
  refine X_iload_n (x := 7) dX6_init_7 rfl ?_
  refine X_imul dX6_init_8 ?_
  refine X_max kJ_RX6_7 (Nat.le_of_ble_eq_true rfl) (Nat.le_of_ble_eq_true rfl) (Nat.le_of_ble_eq_true rfl) (Nat.le_of_ble_eq_true rfl) dX6_init_9 ?_
  refine X_newaC 0 56 56 cS_109 (mOf cL_30) ⟨rfl, rfl⟩ kA_0 (by decide) (by decide) (Nat.le_of_ble_eq_true rfl) (Nat.le_of_ble_eq_true rfl) (Nat.le_of_ble_eq_true rfl) (by decide +kernel) rfl (mOf_n (by decide +kernel)) dX6_init_12 ?_
  refine X_putFR cS_110 kF_RX6_13 rfl (fun q hq => by cases hq; rfl) (show cS_109[55]? = some (.inr (4, [some none, none, none])) by decide +kernel) rfl (fun _ => rfl) (fun _ => rfl) rfl dX6_init_14 ?_
  refine X_aload_n (x := 55) dX6_init_17 rfl ?_
  refine X_iload_n (x := 7) dX6_init_18 rfl ?_
  refine X_putFIC (mOf cL_31) kF_RX6_19 rfl (fun q hq => by cases hq; rfl) (show cS_110[55]? = some (.inr (4, [some (some 56), none, none])) by decide +kernel) rfl rfl rfl mOf_w dX6_init_19 ?_
  exact X_return dX6_init_22 rfl (Nat.le_refl _) (Nat.le_refl _) ⟨rfl, rfl, rfl⟩
set_option maxHeartbeats 1000000 in
theorem xI_29 {ξ : xX} : X ξ mIX6_1_24 0 [.ref 57, .int 4, .int 6] [] cS_112 (mOf cL_31) 0 0 (xr none cS_114 (mOf cL_32)) := by
  refine X_aload_n (x := 57) dX6_init_0 rfl ?_
  refine X_obj kO_RX6_1 (Nat.le_of_ble_eq_true rfl) (Nat.le_of_ble_eq_true rfl) dX6_init_1 ?_
  refine X_aload_n (x := 57) dX6_init_4 rfl ?_
  refine X_iconst 0 dX6_init_5 rfl ?_
  refine X_iload_n (x := 4) dX6_init_6 rfl ?_
  refine X_iload_n (x := 6) dX6_init_7 rfl ?_
  refine X_imul dX6_init_8 ?_
  refine X_max kJ_RX6_7 (Nat.le_of_ble_eq_true rfl) (Nat.le_of_ble_eq_true rfl) (Nat.le_of_ble_eq_true rfl) (Nat.le_of_ble_eq_true rfl) dX6_init_9 ?_
  refine X_newaC 0 24 58 cS_113 (mOf cL_31) ⟨rfl, rfl⟩ kA_0 (by decide) (by decide) (Nat.le_of_ble_eq_true rfl) (Nat.le_of_ble_eq_true rfl) (Nat.le_of_ble_eq_true rfl) (by decide +kernel) rfl (mOf_n (by decide +kernel)) dX6_init_12 ?_
  refine X_putFR cS_114 kF_RX6_13 rfl (fun q hq => by cases hq; rfl) (show cS_113[57]? = some (.inr (4, [some none, none, none])) by decide +kernel) rfl (fun _ => rfl) (fun _ => rfl) rfl dX6_init_14 ?_
  refine X_aload_n (x := 57) dX6_init_17 rfl ?_
  refine X_iload_n (x := 6) dX6_init_18 rfl ?_
  refine X_putFIC (mOf cL_32) kF_RX6_19 rfl (fun q hq => by cases hq; rfl) (show cS_114[57]? = some (.inr (4, [some (some 58), none, none])) by decide +kernel) rfl rfl rfl mOf_w dX6_init_19 ?_
  exact X_return dX6_init_22 rfl (Nat.le_refl _) (Nat.le_refl _) ⟨rfl, rfl, rfl⟩
set_option maxHeartbeats 1000000 in
theorem xI_30 {ξ : xX} : X ξ mIX6_1_96 0 [.ref 59, .int 16, .int 6] [] cS_116 (mOf cL_32) 0 0 (xr none cS_118 (mOf cL_33)) := by
  refine X_aload_n (x := 59) dX6_init_0 rfl ?_
  refine X_obj kO_RX6_1 (Nat.le_of_ble_eq_true rfl) (Nat.le_of_ble_eq_true rfl) dX6_init_1 ?_
  refine X_aload_n (x := 59) dX6_init_4 rfl ?_
  refine X_iconst 0 dX6_init_5 rfl ?_
  refine X_iload_n (x := 16) dX6_init_6 rfl ?_
  refine X_iload_n (x := 6) dX6_init_7 rfl ?_
  refine X_imul dX6_init_8 ?_
  refine X_max kJ_RX6_7 (Nat.le_of_ble_eq_true rfl) (Nat.le_of_ble_eq_true rfl) (Nat.le_of_ble_eq_true rfl) (Nat.le_of_ble_eq_true rfl) dX6_init_9 ?_
  refine X_newaC 0 96 60 cS_117 (mOf cL_32) ⟨rfl, rfl⟩ kA_0 (by decide) (by decide) (Nat.le_of_ble_eq_true rfl) (Nat.le_of_ble_eq_true rfl) (Nat.le_of_ble_eq_true rfl) (by decide +kernel) rfl (mOf_n (by decide +kernel)) dX6_init_12 ?_
  refine X_putFR cS_118 kF_RX6_13 rfl (fun q hq => by cases hq; rfl) (show cS_117[59]? = some (.inr (4, [some none, none, none])) by decide +kernel) rfl (fun _ => rfl) (fun _ => rfl) rfl dX6_init_14 ?_
  refine X_aload_n (x := 59) dX6_init_17 rfl ?_
  refine X_iload_n (x := 6) dX6_init_18 rfl ?_
  refine X_putFIC (mOf cL_33) kF_RX6_19 rfl (fun q hq => by cases hq; rfl) (show cS_118[59]? = some (.inr (4, [some (some 60), none, none])) by decide +kernel) rfl rfl rfl mOf_w dX6_init_19 ?_
  exact X_return dX6_init_22 rfl (Nat.le_refl _) (Nat.le_refl _) ⟨rfl, rfl, rfl⟩
set_option maxHeartbeats 1000000 in
theorem xI_31 {ξ : xX} : X ξ mIX6_1_256 0 [.ref 61, .int 64, .int 4] [] cS_120 (mOf cL_33) 0 0 (xr none cS_122 (mOf cL_34)) := by
  refine X_aload_n (x := 61) dX6_init_0 rfl ?_
  refine X_obj kO_RX6_1 (Nat.le_of_ble_eq_true rfl) (Nat.le_of_ble_eq_true rfl) dX6_init_1 ?_
  refine X_aload_n (x := 61) dX6_init_4 rfl ?_
  refine X_iconst 0 dX6_init_5 rfl ?_
  refine X_iload_n (x := 64) dX6_init_6 rfl ?_
  refine X_iload_n (x := 4) dX6_init_7 rfl ?_
  refine X_imul dX6_init_8 ?_
  refine X_max kJ_RX6_7 (Nat.le_of_ble_eq_true rfl) (Nat.le_of_ble_eq_true rfl) (Nat.le_of_ble_eq_true rfl) (Nat.le_of_ble_eq_true rfl) dX6_init_9 ?_
  refine X_newaC 0 256 62 cS_121 (mOf cL_33) ⟨rfl, rfl⟩ kA_0 (by decide) (by decide) (Nat.le_of_ble_eq_true rfl) (Nat.le_of_ble_eq_true rfl) (Nat.le_of_ble_eq_true rfl) (by decide +kernel) rfl (mOf_n (by decide +kernel)) dX6_init_12 ?_
  refine X_putFR cS_122 kF_RX6_13 rfl (fun q hq => by cases hq; rfl) (show cS_121[61]? = some (.inr (4, [some none, none, none])) by decide +kernel) rfl (fun _ => rfl) (fun _ => rfl) rfl dX6_init_14 ?_
  refine X_aload_n (x := 61) dX6_init_17 rfl ?_
  refine X_iload_n (x := 4) dX6_init_18 rfl ?_
  refine X_putFIC (mOf cL_34) kF_RX6_19 rfl (fun q hq => by cases hq; rfl) (show cS_122[61]? = some (.inr (4, [some (some 62), none, none])) by decide +kernel) rfl rfl rfl mOf_w dX6_init_19 ?_
  exact X_return dX6_init_22 rfl (Nat.le_refl _) (Nat.le_refl _) ⟨rfl, rfl, rfl⟩
set_option maxHeartbeats 1000000 in
theorem xI_32 {ξ : xX} : X ξ mIX6_1_264 0 [.ref 63, .int 24, .int 11] [] cS_124 (mOf cL_34) 0 0 (xr none cS_126 (mOf cL_35)) := by
  refine X_aload_n (x := 63) dX6_init_0 rfl ?_
  refine X_obj kO_RX6_1 (Nat.le_of_ble_eq_true rfl) (Nat.le_of_ble_eq_true rfl) dX6_init_1 ?_
  refine X_aload_n (x := 63) dX6_init_4 rfl ?_
  refine X_iconst 0 dX6_init_5 rfl ?_
  refine X_iload_n (x := 24) dX6_init_6 rfl ?_
  refine X_iload_n (x := 11) dX6_init_7 rfl ?_
  refine X_imul dX6_init_8 ?_
  refine X_max kJ_RX6_7 (Nat.le_of_ble_eq_true rfl) (Nat.le_of_ble_eq_true rfl) (Nat.le_of_ble_eq_true rfl) (Nat.le_of_ble_eq_true rfl) dX6_init_9 ?_
  refine X_newaC 0 264 64 cS_125 (mOf cL_34) ⟨rfl, rfl⟩ kA_0 (by decide) (by decide) (Nat.le_of_ble_eq_true rfl) (Nat.le_of_ble_eq_true rfl) (Nat.le_of_ble_eq_true rfl) (by decide +kernel) rfl (mOf_n (by decide +kernel)) dX6_init_12 ?_
  refine X_putFR cS_126 kF_RX6_13 rfl (fun q hq => by cases hq; rfl) (show cS_125[63]? = some (.inr (4, [some none, none, none])) by decide +kernel) rfl (fun _ => rfl) (fun _ => rfl) rfl dX6_init_14 ?_
  refine X_aload_n (x := 63) dX6_init_17 rfl ?_
  refine X_iload_n (x := 11) dX6_init_18 rfl ?_
  refine X_putFIC (mOf cL_35) kF_RX6_19 rfl (fun q hq => by cases hq; rfl) (show cS_126[63]? = some (.inr (4, [some (some 64), none, none])) by decide +kernel) rfl rfl rfl mOf_w dX6_init_19 ?_
  exact X_return dX6_init_22 rfl (Nat.le_refl _) (Nat.le_refl _) ⟨rfl, rfl, rfl⟩
set_option maxHeartbeats 1000000 in
theorem xI_33 {ξ : xX} : X ξ mIX6_1_120 0 [.ref 65, .int 24, .int 5] [] cS_128 (mOf cL_35) 0 0 (xr none cS_130 (mOf cL_36)) := by
  refine X_aload_n (x := 65) dX6_init_0 rfl ?_
  refine X_obj kO_RX6_1 (Nat.le_of_ble_eq_true rfl) (Nat.le_of_ble_eq_true rfl) dX6_init_1 ?_
  refine X_aload_n (x := 65) dX6_init_4 rfl ?_
  refine X_iconst 0 dX6_init_5 rfl ?_
  refine X_iload_n (x := 24) dX6_init_6 rfl ?_
  refine X_iload_n (x := 5) dX6_init_7 rfl ?_
  refine X_imul dX6_init_8 ?_
  refine X_max kJ_RX6_7 (Nat.le_of_ble_eq_true rfl) (Nat.le_of_ble_eq_true rfl) (Nat.le_of_ble_eq_true rfl) (Nat.le_of_ble_eq_true rfl) dX6_init_9 ?_
  refine X_newaC 0 120 66 cS_129 (mOf cL_35) ⟨rfl, rfl⟩ kA_0 (by decide) (by decide) (Nat.le_of_ble_eq_true rfl) (Nat.le_of_ble_eq_true rfl) (Nat.le_of_ble_eq_true rfl) (by decide +kernel) rfl (mOf_n (by decide +kernel)) dX6_init_12 ?_
  refine X_putFR cS_130 kF_RX6_13 rfl (fun q hq => by cases hq; rfl) (show cS_129[65]? = some (.inr (4, [some none, none, none])) by decide +kernel) rfl (fun _ => rfl) (fun _ => rfl) rfl dX6_init_14 ?_
  refine X_aload_n (x := 65) dX6_init_17 rfl ?_
  refine X_iload_n (x := 5) dX6_init_18 rfl ?_
  refine X_putFIC (mOf cL_36) kF_RX6_19 rfl (fun q hq => by cases hq; rfl) (show cS_130[65]? = some (.inr (4, [some (some 66), none, none])) by decide +kernel) rfl rfl rfl mOf_w dX6_init_19 ?_
  exact X_return dX6_init_22 rfl (Nat.le_refl _) (Nat.le_refl _) ⟨rfl, rfl, rfl⟩
set_option maxHeartbeats 1000000 in
theorem xI_34 {ξ : xX} : X ξ mIX6_1_160 0 [.ref 67, .int 16, .int 10] [] cS_132 (mOf cL_36) 0 0 (xr none cS_134 (mOf cL_37)) := by
  refine X_aload_n (x := 67) dX6_init_0 rfl ?_
  refine X_obj kO_RX6_1 (Nat.le_of_ble_eq_true rfl) (Nat.le_of_ble_eq_true rfl) dX6_init_1 ?_
  refine X_aload_n (x := 67) dX6_init_4 rfl ?_
  refine X_iconst 0 dX6_init_5 rfl ?_
  refine X_iload_n (x := 16) dX6_init_6 rfl ?_
  refine X_iload_n (x := 10) dX6_init_7 rfl ?_
  refine X_imul dX6_init_8 ?_
  refine X_max kJ_RX6_7 (Nat.le_of_ble_eq_true rfl) (Nat.le_of_ble_eq_true rfl) (Nat.le_of_ble_eq_true rfl) (Nat.le_of_ble_eq_true rfl) dX6_init_9 ?_
  refine X_newaC 0 160 68 cS_133 (mOf cL_36) ⟨rfl, rfl⟩ kA_0 (by decide) (by decide) (Nat.le_of_ble_eq_true rfl) (Nat.le_of_ble_eq_true rfl) (Nat.le_of_ble_eq_true rfl) (by decide +kernel) rfl (mOf_n (by decide +kernel)) dX6_init_12 ?_
  refine X_putFR cS_134 kF_RX6_13 rfl (fun q hq => by cases hq; rfl) (show cS_133[67]? = some (.inr (4, [some none, none, none])) by decide +kernel) rfl (fun _ => rfl) (fun _ => rfl) rfl dX6_init_14 ?_
  refine X_aload_n (x := 67) dX6_init_17 rfl ?_
  refine X_iload_n (x := 10) dX6_init_18 rfl ?_
  refine X_putFIC (mOf cL_37) kF_RX6_19 rfl (fun q hq => by cases hq; rfl) (show cS_134[67]? = some (.inr (4, [some (some 68), none, none])) by decide +kernel) rfl rfl rfl mOf_w dX6_init_19 ?_
  exact X_return dX6_init_22 rfl (Nat.le_refl _) (Nat.le_refl _) ⟨rfl, rfl, rfl⟩
set_option maxHeartbeats 1000000 in
theorem xI_35 {ξ : xX} : X ξ mIX6_1_16 0 [.ref 69, .int 8, .int 2] [] cS_136 (mOf cL_37) 0 0 (xr none cS_138 (mOf cL_38)) := by
  refine X_aload_n (x := 69) dX6_init_0 rfl ?_
  refine X_obj kO_RX6_1 (Nat.le_of_ble_eq_true rfl) (Nat.le_of_ble_eq_true rfl) dX6_init_1 ?_
  refine X_aload_n (x := 69) dX6_init_4 rfl ?_
  refine X_iconst 0 dX6_init_5 rfl ?_
  refine X_iload_n (x := 8) dX6_init_6 rfl ?_
  refine X_iload_n (x := 2) dX6_init_7 rfl ?_
  refine X_imul dX6_init_8 ?_
  refine X_max kJ_RX6_7 (Nat.le_of_ble_eq_true rfl) (Nat.le_of_ble_eq_true rfl) (Nat.le_of_ble_eq_true rfl) (Nat.le_of_ble_eq_true rfl) dX6_init_9 ?_
  refine X_newaC 0 16 70 cS_137 (mOf cL_37) ⟨rfl, rfl⟩ kA_0 (by decide) (by decide) (Nat.le_of_ble_eq_true rfl) (Nat.le_of_ble_eq_true rfl) (Nat.le_of_ble_eq_true rfl) (by decide +kernel) rfl (mOf_n (by decide +kernel)) dX6_init_12 ?_
  refine X_putFR cS_138 kF_RX6_13 rfl (fun q hq => by cases hq; rfl) (show cS_137[69]? = some (.inr (4, [some none, none, none])) by decide +kernel) rfl (fun _ => rfl) (fun _ => rfl) rfl dX6_init_14 ?_
  refine X_aload_n (x := 69) dX6_init_17 rfl ?_
  refine X_iload_n (x := 2) dX6_init_18 rfl ?_
  refine X_putFIC (mOf cL_38) kF_RX6_19 rfl (fun q hq => by cases hq; rfl) (show cS_138[69]? = some (.inr (4, [some (some 70), none, none])) by decide +kernel) rfl rfl rfl mOf_w dX6_init_19 ?_
  exact X_return dX6_init_22 rfl (Nat.le_refl _) (Nat.le_refl _) ⟨rfl, rfl, rfl⟩
set_option maxHeartbeats 1000000 in
theorem xI_36 {ξ : xX} : X ξ mIX5_16_1016 0 [.ref 54] [] cS_107 (mOf cL_30) 0 0 (xr none cS_139 (mOf cL_40)) := by
  refine X_aload_n (x := 54) dX5_init_0 rfl ?_
  refine X_obj kO_RX5_3 (Nat.le_of_ble_eq_true rfl) (Nat.le_of_ble_eq_true rfl) dX5_init_1 ?_
  refine X_aload_n (x := 54) dX5_init_4 rfl ?_
  refine X_newC [some none, none, none] tyX6 55 cS_108 (mOf cL_30) rfl win_X6 tyX6_ok kN_RX5_9 (by decide) (Nat.le_of_ble_eq_true rfl) (Nat.le_of_ble_eq_true rfl) (by decide +kernel) rfl (mOf_n (by decide +kernel)) dX5_init_5 ?_
  refine X_dup dX5_init_8 rfl ?_
  refine X_bipush 8 dX5_init_9 rfl ?_
  refine X_bipush 7 dX5_init_11 rfl ?_
  refine X_iC (μ' := mIX6_1_56) [.int 8, .int 7] [.ref 55, .ref 54] cS_110 (mOf cL_31) kL_RX5_11 kI_mIX6_1_56 rfl rfl dX5_init_13 xI_28 ?_
  refine X_putFR cS_111 kF_RX5_14 rfl (fun q hq => by cases hq; rfl) (show cS_110[54]? = some (.inr (3, [some none, some none, some none, some none, some none, some none, some none, some none, none, none])) by decide +kernel) rfl (fun _ => rfl) (fun _ => rfl) rfl dX5_init_16 ?_
  refine X_aload_n (x := 54) dX5_init_19 rfl ?_
  refine X_newC [some none, none, none] tyX6 57 cS_112 (mOf cL_31) rfl win_X6 tyX6_ok kN_RX5_9 (by decide) (Nat.le_of_ble_eq_true rfl) (Nat.le_of_ble_eq_true rfl) (by decide +kernel) rfl (mOf_n (by decide +kernel)) dX5_init_20 ?_
  refine X_dup dX5_init_23 rfl ?_
  refine X_iconst 4 dX5_init_24 rfl ?_
  refine X_bipush 6 dX5_init_25 rfl ?_
  refine X_iC (μ' := mIX6_1_24) [.int 4, .int 6] [.ref 57, .ref 54] cS_114 (mOf cL_32) kL_RX5_11 kI_mIX6_1_24 rfl rfl dX5_init_27 xI_29 ?_
  refine X_putFR cS_115 kF_RX5_20 rfl (fun q hq => by cases hq; rfl) (show cS_114[54]? = some (.inr (3, [some (some 55), some none, some none, some none, some none, some none, some none, some none, none, none])) by decide +kernel) rfl (fun _ => rfl) (fun _ => rfl) rfl dX5_init_30 ?_
  refine X_aload_n (x := 54) dX5_init_33 rfl ?_
  refine X_newC [some none, none, none] tyX6 59 cS_116 (mOf cL_32) rfl win_X6 tyX6_ok kN_RX5_9 (by decide) (Nat.le_of_ble_eq_true rfl) (Nat.le_of_ble_eq_true rfl) (by decide +kernel) rfl (mOf_n (by decide +kernel)) dX5_init_34 ?_
  refine X_dup dX5_init_37 rfl ?_
  refine X_bipush 16 dX5_init_38 rfl ?_
  refine X_bipush 6 dX5_init_40 rfl ?_
  refine X_iC (μ' := mIX6_1_96) [.int 16, .int 6] [.ref 59, .ref 54] cS_118 (mOf cL_33) kL_RX5_11 kI_mIX6_1_96 rfl rfl dX5_init_42 xI_30 ?_
  refine X_putFR cS_119 kF_RX5_23 rfl (fun q hq => by cases hq; rfl) (show cS_118[54]? = some (.inr (3, [some (some 55), some (some 57), some none, some none, some none, some none, some none, some none, none, none])) by decide +kernel) rfl (fun _ => rfl) (fun _ => rfl) rfl dX5_init_45 ?_
  refine X_aload_n (x := 54) dX5_init_48 rfl ?_
  refine X_newC [some none, none, none] tyX6 61 cS_120 (mOf cL_33) rfl win_X6 tyX6_ok kN_RX5_9 (by decide) (Nat.le_of_ble_eq_true rfl) (Nat.le_of_ble_eq_true rfl) (by decide +kernel) rfl (mOf_n (by decide +kernel)) dX5_init_49 ?_
  refine X_dup dX5_init_52 rfl ?_
  refine X_bipush 64 dX5_init_53 rfl ?_
  refine X_iconst 4 dX5_init_55 rfl ?_
  refine X_iC (μ' := mIX6_1_256) [.int 64, .int 4] [.ref 61, .ref 54] cS_122 (mOf cL_34) kL_RX5_11 kI_mIX6_1_256 rfl rfl dX5_init_56 xI_31 ?_
  refine X_putFR cS_123 kF_RX5_26 rfl (fun q hq => by cases hq; rfl) (show cS_122[54]? = some (.inr (3, [some (some 55), some (some 57), some (some 59), some none, some none, some none, some none, some none, none, none])) by decide +kernel) rfl (fun _ => rfl) (fun _ => rfl) rfl dX5_init_59 ?_
  refine X_aload_n (x := 54) dX5_init_62 rfl ?_
  refine X_newC [some none, none, none] tyX6 63 cS_124 (mOf cL_34) rfl win_X6 tyX6_ok kN_RX5_9 (by decide) (Nat.le_of_ble_eq_true rfl) (Nat.le_of_ble_eq_true rfl) (by decide +kernel) rfl (mOf_n (by decide +kernel)) dX5_init_63 ?_
  refine X_dup dX5_init_66 rfl ?_
  refine X_bipush 24 dX5_init_67 rfl ?_
  refine X_bipush 11 dX5_init_69 rfl ?_
  refine X_iC (μ' := mIX6_1_264) [.int 24, .int 11] [.ref 63, .ref 54] cS_126 (mOf cL_35) kL_RX5_11 kI_mIX6_1_264 rfl rfl dX5_init_71 xI_32 ?_
  refine X_putFR cS_127 kF_RX5_29 rfl (fun q hq => by cases hq; rfl) (show cS_126[54]? = some (.inr (3, [some (some 55), some (some 57), some (some 59), some (some 61), some none, some none, some none, some none, none, none])) by decide +kernel) rfl (fun _ => rfl) (fun _ => rfl) rfl dX5_init_74 ?_
  refine X_aload_n (x := 54) dX5_init_77 rfl ?_
  refine X_newC [some none, none, none] tyX6 65 cS_128 (mOf cL_35) rfl win_X6 tyX6_ok kN_RX5_9 (by decide) (Nat.le_of_ble_eq_true rfl) (Nat.le_of_ble_eq_true rfl) (by decide +kernel) rfl (mOf_n (by decide +kernel)) dX5_init_78 ?_
  refine X_dup dX5_init_81 rfl ?_
  refine X_bipush 24 dX5_init_82 rfl ?_
  refine X_iconst 5 dX5_init_84 rfl ?_
  refine X_iC (μ' := mIX6_1_120) [.int 24, .int 5] [.ref 65, .ref 54] cS_130 (mOf cL_36) kL_RX5_11 kI_mIX6_1_120 rfl rfl dX5_init_85 xI_33 ?_
  refine X_putFR cS_131 kF_RX5_32 rfl (fun q hq => by cases hq; rfl) (show cS_130[54]? = some (.inr (3, [some (some 55), some (some 57), some (some 59), some (some 61), some (some 63), some none, some none, some none, none, none])) by decide +kernel) rfl (fun _ => rfl) (fun _ => rfl) rfl dX5_init_88 ?_
  refine X_aload_n (x := 54) dX5_init_91 rfl ?_
  refine X_newC [some none, none, none] tyX6 67 cS_132 (mOf cL_36) rfl win_X6 tyX6_ok kN_RX5_9 (by decide) (Nat.le_of_ble_eq_true rfl) (Nat.le_of_ble_eq_true rfl) (by decide +kernel) rfl (mOf_n (by decide +kernel)) dX5_init_92 ?_
  refine X_dup dX5_init_95 rfl ?_
  refine X_bipush 16 dX5_init_96 rfl ?_
  refine X_bipush 10 dX5_init_98 rfl ?_
  refine X_iC (μ' := mIX6_1_160) [.int 16, .int 10] [.ref 67, .ref 54] cS_134 (mOf cL_37) kL_RX5_11 kI_mIX6_1_160 rfl rfl dX5_init_100 xI_34 ?_
  refine X_putFR cS_135 kF_RX5_35 rfl (fun q hq => by cases hq; rfl) (show cS_134[54]? = some (.inr (3, [some (some 55), some (some 57), some (some 59), some (some 61), some (some 63), some (some 65), some none, some none, none, none])) by decide +kernel) rfl (fun _ => rfl) (fun _ => rfl) rfl dX5_init_103 ?_
  refine X_aload_n (x := 54) dX5_init_106 rfl ?_
  refine X_newC [some none, none, none] tyX6 69 cS_136 (mOf cL_37) rfl win_X6 tyX6_ok kN_RX5_9 (by decide) (Nat.le_of_ble_eq_true rfl) (Nat.le_of_ble_eq_true rfl) (by decide +kernel) rfl (mOf_n (by decide +kernel)) dX5_init_107 ?_
  refine X_dup dX5_init_110 rfl ?_
  refine X_bipush 8 dX5_init_111 rfl ?_
  refine X_iconst 2 dX5_init_113 rfl ?_
  refine X_iC (μ' := mIX6_1_16) [.int 8, .int 2] [.ref 69, .ref 54] cS_138 (mOf cL_38) kL_RX5_11 kI_mIX6_1_16 rfl rfl dX5_init_114 xI_35 ?_
  refine X_putFR cS_139 kF_RX5_38 rfl (fun q hq => by cases hq; rfl) (show cS_138[54]? = some (.inr (3, [some (some 55), some (some 57), some (some 59), some (some 61), some (some 63), some (some 65), some (some 67), some none, none, none])) by decide +kernel) rfl (fun _ => rfl) (fun _ => rfl) rfl dX5_init_117 ?_
  refine X_aload_n (x := 54) dX5_init_120 rfl ?_
  refine X_get (v := .ref 61) kF_RX5_26 (show cS_139[54]? = some (.inr (3, [some (some 55), some (some 57), some (some 59), some (some 61), some (some 63), some (some 65), some (some 67), some (some 69), none, none])) by decide +kernel) rfl rfl dX5_init_121 ?_
  refine X_bipush 64 dX5_init_124 rfl ?_
  refine X_putIC (mOf cL_39) kF_RX5_41 (show cS_139[61]? = some (.inr (4, [some (some 62), none, none])) by decide +kernel) rfl rfl rfl mOf_w dX5_init_126 ?_
  refine X_aload_n (x := 54) dX5_init_129 rfl ?_
  refine X_get (v := .ref 69) kF_RX5_38 (show cS_139[54]? = some (.inr (3, [some (some 55), some (some 57), some (some 59), some (some 61), some (some 63), some (some 65), some (some 67), some (some 69), none, none])) by decide +kernel) rfl rfl dX5_init_130 ?_
  refine X_bipush 8 dX5_init_133 rfl ?_
  refine X_putIC (mOf cL_40) kF_RX5_41 (show cS_139[69]? = some (.inr (4, [some (some 70), none, none])) by decide +kernel) rfl rfl rfl mOf_w dX5_init_135 ?_
  exact X_return dX5_init_138 rfl (Nat.le_refl _) (Nat.le_refl _) ⟨rfl, rfl, rfl⟩
set_option maxHeartbeats 1000000 in
theorem xI_37 {ξ : xX} : X ξ mIX6_1_56 0 [.ref 72, .int 8, .int 7] [] cS_142 (mOf cL_40) 0 0 (xr none cS_144 (mOf cL_41)) := by
  refine X_aload_n (x := 72) dX6_init_0 rfl ?_
  refine X_obj kO_RX6_1 (Nat.le_of_ble_eq_true rfl) (Nat.le_of_ble_eq_true rfl) dX6_init_1 ?_
  refine X_aload_n (x := 72) dX6_init_4 rfl ?_
  refine X_iconst 0 dX6_init_5 rfl ?_
  refine X_iload_n (x := 8) dX6_init_6 rfl ?_
  refine X_iload_n (x := 7) dX6_init_7 rfl ?_
  refine X_imul dX6_init_8 ?_
  refine X_max kJ_RX6_7 (Nat.le_of_ble_eq_true rfl) (Nat.le_of_ble_eq_true rfl) (Nat.le_of_ble_eq_true rfl) (Nat.le_of_ble_eq_true rfl) dX6_init_9 ?_
  refine X_newaC 0 56 73 cS_143 (mOf cL_40) ⟨rfl, rfl⟩ kA_0 (by decide) (by decide) (Nat.le_of_ble_eq_true rfl) (Nat.le_of_ble_eq_true rfl) (Nat.le_of_ble_eq_true rfl) (by decide +kernel) rfl (mOf_n (by decide +kernel)) dX6_init_12 ?_
  refine X_putFR cS_144 kF_RX6_13 rfl (fun q hq => by cases hq; rfl) (show cS_143[72]? = some (.inr (4, [some none, none, none])) by decide +kernel) rfl (fun _ => rfl) (fun _ => rfl) rfl dX6_init_14 ?_
  refine X_aload_n (x := 72) dX6_init_17 rfl ?_
  refine X_iload_n (x := 7) dX6_init_18 rfl ?_
  refine X_putFIC (mOf cL_41) kF_RX6_19 rfl (fun q hq => by cases hq; rfl) (show cS_144[72]? = some (.inr (4, [some (some 73), none, none])) by decide +kernel) rfl rfl rfl mOf_w dX6_init_19 ?_
  exact X_return dX6_init_22 rfl (Nat.le_refl _) (Nat.le_refl _) ⟨rfl, rfl, rfl⟩
set_option maxHeartbeats 1000000 in
theorem xI_38 {ξ : xX} : X ξ mIX6_1_24 0 [.ref 74, .int 4, .int 6] [] cS_146 (mOf cL_41) 0 0 (xr none cS_148 (mOf cL_42)) := by
  refine X_aload_n (x := 74) dX6_init_0 rfl ?_
  refine X_obj kO_RX6_1 (Nat.le_of_ble_eq_true rfl) (Nat.le_of_ble_eq_true rfl) dX6_init_1 ?_
  refine X_aload_n (x := 74) dX6_init_4 rfl ?_
  refine X_iconst 0 dX6_init_5 rfl ?_
  refine X_iload_n (x := 4) dX6_init_6 rfl ?_
  refine X_iload_n (x := 6) dX6_init_7 rfl ?_
  refine X_imul dX6_init_8 ?_
  refine X_max kJ_RX6_7 (Nat.le_of_ble_eq_true rfl) (Nat.le_of_ble_eq_true rfl) (Nat.le_of_ble_eq_true rfl) (Nat.le_of_ble_eq_true rfl) dX6_init_9 ?_
  refine X_newaC 0 24 75 cS_147 (mOf cL_41) ⟨rfl, rfl⟩ kA_0 (by decide) (by decide) (Nat.le_of_ble_eq_true rfl) (Nat.le_of_ble_eq_true rfl) (Nat.le_of_ble_eq_true rfl) (by decide +kernel) rfl (mOf_n (by decide +kernel)) dX6_init_12 ?_
  refine X_putFR cS_148 kF_RX6_13 rfl (fun q hq => by cases hq; rfl) (show cS_147[74]? = some (.inr (4, [some none, none, none])) by decide +kernel) rfl (fun _ => rfl) (fun _ => rfl) rfl dX6_init_14 ?_
  refine X_aload_n (x := 74) dX6_init_17 rfl ?_
  refine X_iload_n (x := 6) dX6_init_18 rfl ?_
  refine X_putFIC (mOf cL_42) kF_RX6_19 rfl (fun q hq => by cases hq; rfl) (show cS_148[74]? = some (.inr (4, [some (some 75), none, none])) by decide +kernel) rfl rfl rfl mOf_w dX6_init_19 ?_
  exact X_return dX6_init_22 rfl (Nat.le_refl _) (Nat.le_refl _) ⟨rfl, rfl, rfl⟩
set_option maxHeartbeats 1000000 in
theorem xI_39 {ξ : xX} : X ξ mIX6_1_96 0 [.ref 76, .int 16, .int 6] [] cS_150 (mOf cL_42) 0 0 (xr none cS_152 (mOf cL_43)) := by
  refine X_aload_n (x := 76) dX6_init_0 rfl ?_
  refine X_obj kO_RX6_1 (Nat.le_of_ble_eq_true rfl) (Nat.le_of_ble_eq_true rfl) dX6_init_1 ?_
  refine X_aload_n (x := 76) dX6_init_4 rfl ?_
  refine X_iconst 0 dX6_init_5 rfl ?_
  refine X_iload_n (x := 16) dX6_init_6 rfl ?_
  refine X_iload_n (x := 6) dX6_init_7 rfl ?_
  refine X_imul dX6_init_8 ?_
  refine X_max kJ_RX6_7 (Nat.le_of_ble_eq_true rfl) (Nat.le_of_ble_eq_true rfl) (Nat.le_of_ble_eq_true rfl) (Nat.le_of_ble_eq_true rfl) dX6_init_9 ?_
  refine X_newaC 0 96 77 cS_151 (mOf cL_42) ⟨rfl, rfl⟩ kA_0 (by decide) (by decide) (Nat.le_of_ble_eq_true rfl) (Nat.le_of_ble_eq_true rfl) (Nat.le_of_ble_eq_true rfl) (by decide +kernel) rfl (mOf_n (by decide +kernel)) dX6_init_12 ?_
  refine X_putFR cS_152 kF_RX6_13 rfl (fun q hq => by cases hq; rfl) (show cS_151[76]? = some (.inr (4, [some none, none, none])) by decide +kernel) rfl (fun _ => rfl) (fun _ => rfl) rfl dX6_init_14 ?_
  refine X_aload_n (x := 76) dX6_init_17 rfl ?_
  refine X_iload_n (x := 6) dX6_init_18 rfl ?_
  refine X_putFIC (mOf cL_43) kF_RX6_19 rfl (fun q hq => by cases hq; rfl) (show cS_152[76]? = some (.inr (4, [some (some 77), none, none])) by decide +kernel) rfl rfl rfl mOf_w dX6_init_19 ?_
  exact X_return dX6_init_22 rfl (Nat.le_refl _) (Nat.le_refl _) ⟨rfl, rfl, rfl⟩
set_option maxHeartbeats 1000000 in
theorem xI_40 {ξ : xX} : X ξ mIX6_1_256 0 [.ref 78, .int 64, .int 4] [] cS_154 (mOf cL_43) 0 0 (xr none cS_156 (mOf cL_44)) := by
  refine X_aload_n (x := 78) dX6_init_0 rfl ?_
  refine X_obj kO_RX6_1 (Nat.le_of_ble_eq_true rfl) (Nat.le_of_ble_eq_true rfl) dX6_init_1 ?_
  refine X_aload_n (x := 78) dX6_init_4 rfl ?_
  refine X_iconst 0 dX6_init_5 rfl ?_
  refine X_iload_n (x := 64) dX6_init_6 rfl ?_
  refine X_iload_n (x := 4) dX6_init_7 rfl ?_
  refine X_imul dX6_init_8 ?_
  refine X_max kJ_RX6_7 (Nat.le_of_ble_eq_true rfl) (Nat.le_of_ble_eq_true rfl) (Nat.le_of_ble_eq_true rfl) (Nat.le_of_ble_eq_true rfl) dX6_init_9 ?_
  refine X_newaC 0 256 79 cS_155 (mOf cL_43) ⟨rfl, rfl⟩ kA_0 (by decide) (by decide) (Nat.le_of_ble_eq_true rfl) (Nat.le_of_ble_eq_true rfl) (Nat.le_of_ble_eq_true rfl) (by decide +kernel) rfl (mOf_n (by decide +kernel)) dX6_init_12 ?_
  refine X_putFR cS_156 kF_RX6_13 rfl (fun q hq => by cases hq; rfl) (show cS_155[78]? = some (.inr (4, [some none, none, none])) by decide +kernel) rfl (fun _ => rfl) (fun _ => rfl) rfl dX6_init_14 ?_
  refine X_aload_n (x := 78) dX6_init_17 rfl ?_
  refine X_iload_n (x := 4) dX6_init_18 rfl ?_
  refine X_putFIC (mOf cL_44) kF_RX6_19 rfl (fun q hq => by cases hq; rfl) (show cS_156[78]? = some (.inr (4, [some (some 79), none, none])) by decide +kernel) rfl rfl rfl mOf_w dX6_init_19 ?_
  exact X_return dX6_init_22 rfl (Nat.le_refl _) (Nat.le_refl _) ⟨rfl, rfl, rfl⟩
set_option maxHeartbeats 1000000 in
theorem xI_41 {ξ : xX} : X ξ mIX6_1_264 0 [.ref 80, .int 24, .int 11] [] cS_158 (mOf cL_44) 0 0 (xr none cS_160 (mOf cL_45)) := by
  refine X_aload_n (x := 80) dX6_init_0 rfl ?_
  refine X_obj kO_RX6_1 (Nat.le_of_ble_eq_true rfl) (Nat.le_of_ble_eq_true rfl) dX6_init_1 ?_
  refine X_aload_n (x := 80) dX6_init_4 rfl ?_
  refine X_iconst 0 dX6_init_5 rfl ?_
  refine X_iload_n (x := 24) dX6_init_6 rfl ?_
  refine X_iload_n (x := 11) dX6_init_7 rfl ?_
  refine X_imul dX6_init_8 ?_
  refine X_max kJ_RX6_7 (Nat.le_of_ble_eq_true rfl) (Nat.le_of_ble_eq_true rfl) (Nat.le_of_ble_eq_true rfl) (Nat.le_of_ble_eq_true rfl) dX6_init_9 ?_
  refine X_newaC 0 264 81 cS_159 (mOf cL_44) ⟨rfl, rfl⟩ kA_0 (by decide) (by decide) (Nat.le_of_ble_eq_true rfl) (Nat.le_of_ble_eq_true rfl) (Nat.le_of_ble_eq_true rfl) (by decide +kernel) rfl (mOf_n (by decide +kernel)) dX6_init_12 ?_
  refine X_putFR cS_160 kF_RX6_13 rfl (fun q hq => by cases hq; rfl) (show cS_159[80]? = some (.inr (4, [some none, none, none])) by decide +kernel) rfl (fun _ => rfl) (fun _ => rfl) rfl dX6_init_14 ?_
  refine X_aload_n (x := 80) dX6_init_17 rfl ?_
  refine X_iload_n (x := 11) dX6_init_18 rfl ?_
  refine X_putFIC (mOf cL_45) kF_RX6_19 rfl (fun q hq => by cases hq; rfl) (show cS_160[80]? = some (.inr (4, [some (some 81), none, none])) by decide +kernel) rfl rfl rfl mOf_w dX6_init_19 ?_
  exact X_return dX6_init_22 rfl (Nat.le_refl _) (Nat.le_refl _) ⟨rfl, rfl, rfl⟩
set_option maxHeartbeats 1000000 in
theorem xI_42 {ξ : xX} : X ξ mIX6_1_120 0 [.ref 82, .int 24, .int 5] [] cS_162 (mOf cL_45) 0 0 (xr none cS_164 (mOf cL_46)) := by
  refine X_aload_n (x := 82) dX6_init_0 rfl ?_
  refine X_obj kO_RX6_1 (Nat.le_of_ble_eq_true rfl) (Nat.le_of_ble_eq_true rfl) dX6_init_1 ?_
  refine X_aload_n (x := 82) dX6_init_4 rfl ?_
  refine X_iconst 0 dX6_init_5 rfl ?_
  refine X_iload_n (x := 24) dX6_init_6 rfl ?_
  refine X_iload_n (x := 5) dX6_init_7 rfl ?_
  refine X_imul dX6_init_8 ?_
  refine X_max kJ_RX6_7 (Nat.le_of_ble_eq_true rfl) (Nat.le_of_ble_eq_true rfl) (Nat.le_of_ble_eq_true rfl) (Nat.le_of_ble_eq_true rfl) dX6_init_9 ?_
  refine X_newaC 0 120 83 cS_163 (mOf cL_45) ⟨rfl, rfl⟩ kA_0 (by decide) (by decide) (Nat.le_of_ble_eq_true rfl) (Nat.le_of_ble_eq_true rfl) (Nat.le_of_ble_eq_true rfl) (by decide +kernel) rfl (mOf_n (by decide +kernel)) dX6_init_12 ?_
  refine X_putFR cS_164 kF_RX6_13 rfl (fun q hq => by cases hq; rfl) (show cS_163[82]? = some (.inr (4, [some none, none, none])) by decide +kernel) rfl (fun _ => rfl) (fun _ => rfl) rfl dX6_init_14 ?_
  refine X_aload_n (x := 82) dX6_init_17 rfl ?_
  refine X_iload_n (x := 5) dX6_init_18 rfl ?_
  refine X_putFIC (mOf cL_46) kF_RX6_19 rfl (fun q hq => by cases hq; rfl) (show cS_164[82]? = some (.inr (4, [some (some 83), none, none])) by decide +kernel) rfl rfl rfl mOf_w dX6_init_19 ?_
  exact X_return dX6_init_22 rfl (Nat.le_refl _) (Nat.le_refl _) ⟨rfl, rfl, rfl⟩
set_option maxHeartbeats 1000000 in
theorem xI_43 {ξ : xX} : X ξ mIX6_1_160 0 [.ref 84, .int 16, .int 10] [] cS_166 (mOf cL_46) 0 0 (xr none cS_168 (mOf cL_47)) := by
  refine X_aload_n (x := 84) dX6_init_0 rfl ?_
  refine X_obj kO_RX6_1 (Nat.le_of_ble_eq_true rfl) (Nat.le_of_ble_eq_true rfl) dX6_init_1 ?_
  refine X_aload_n (x := 84) dX6_init_4 rfl ?_
  refine X_iconst 0 dX6_init_5 rfl ?_
  refine X_iload_n (x := 16) dX6_init_6 rfl ?_
  refine X_iload_n (x := 10) dX6_init_7 rfl ?_
  refine X_imul dX6_init_8 ?_
  refine X_max kJ_RX6_7 (Nat.le_of_ble_eq_true rfl) (Nat.le_of_ble_eq_true rfl) (Nat.le_of_ble_eq_true rfl) (Nat.le_of_ble_eq_true rfl) dX6_init_9 ?_
  refine X_newaC 0 160 85 cS_167 (mOf cL_46) ⟨rfl, rfl⟩ kA_0 (by decide) (by decide) (Nat.le_of_ble_eq_true rfl) (Nat.le_of_ble_eq_true rfl) (Nat.le_of_ble_eq_true rfl) (by decide +kernel) rfl (mOf_n (by decide +kernel)) dX6_init_12 ?_
  refine X_putFR cS_168 kF_RX6_13 rfl (fun q hq => by cases hq; rfl) (show cS_167[84]? = some (.inr (4, [some none, none, none])) by decide +kernel) rfl (fun _ => rfl) (fun _ => rfl) rfl dX6_init_14 ?_
  refine X_aload_n (x := 84) dX6_init_17 rfl ?_
  refine X_iload_n (x := 10) dX6_init_18 rfl ?_
  refine X_putFIC (mOf cL_47) kF_RX6_19 rfl (fun q hq => by cases hq; rfl) (show cS_168[84]? = some (.inr (4, [some (some 85), none, none])) by decide +kernel) rfl rfl rfl mOf_w dX6_init_19 ?_
  exact X_return dX6_init_22 rfl (Nat.le_refl _) (Nat.le_refl _) ⟨rfl, rfl, rfl⟩
set_option maxHeartbeats 1000000 in
theorem xI_44 {ξ : xX} : X ξ mIX6_1_16 0 [.ref 86, .int 8, .int 2] [] cS_170 (mOf cL_47) 0 0 (xr none cS_172 (mOf cL_48)) := by
  refine X_aload_n (x := 86) dX6_init_0 rfl ?_
  refine X_obj kO_RX6_1 (Nat.le_of_ble_eq_true rfl) (Nat.le_of_ble_eq_true rfl) dX6_init_1 ?_
  refine X_aload_n (x := 86) dX6_init_4 rfl ?_
  refine X_iconst 0 dX6_init_5 rfl ?_
  refine X_iload_n (x := 8) dX6_init_6 rfl ?_
  refine X_iload_n (x := 2) dX6_init_7 rfl ?_
  refine X_imul dX6_init_8 ?_
  refine X_max kJ_RX6_7 (Nat.le_of_ble_eq_true rfl) (Nat.le_of_ble_eq_true rfl) (Nat.le_of_ble_eq_true rfl) (Nat.le_of_ble_eq_true rfl) dX6_init_9 ?_
  refine X_newaC 0 16 87 cS_171 (mOf cL_47) ⟨rfl, rfl⟩ kA_0 (by decide) (by decide) (Nat.le_of_ble_eq_true rfl) (Nat.le_of_ble_eq_true rfl) (Nat.le_of_ble_eq_true rfl) (by decide +kernel) rfl (mOf_n (by decide +kernel)) dX6_init_12 ?_
  refine X_putFR cS_172 kF_RX6_13 rfl (fun q hq => by cases hq; rfl) (show cS_171[86]? = some (.inr (4, [some none, none, none])) by decide +kernel) rfl (fun _ => rfl) (fun _ => rfl) rfl dX6_init_14 ?_
  refine X_aload_n (x := 86) dX6_init_17 rfl ?_
  refine X_iload_n (x := 2) dX6_init_18 rfl ?_
  refine X_putFIC (mOf cL_48) kF_RX6_19 rfl (fun q hq => by cases hq; rfl) (show cS_172[86]? = some (.inr (4, [some (some 87), none, none])) by decide +kernel) rfl rfl rfl mOf_w dX6_init_19 ?_
  exact X_return dX6_init_22 rfl (Nat.le_refl _) (Nat.le_refl _) ⟨rfl, rfl, rfl⟩
set_option maxHeartbeats 1000000 in
theorem xI_45 {ξ : xX} : X ξ mIX5_16_1016 0 [.ref 71] [] cS_141 (mOf cL_40) 0 0 (xr none cS_173 (mOf cL_50)) := by
  refine X_aload_n (x := 71) dX5_init_0 rfl ?_
  refine X_obj kO_RX5_3 (Nat.le_of_ble_eq_true rfl) (Nat.le_of_ble_eq_true rfl) dX5_init_1 ?_
  refine X_aload_n (x := 71) dX5_init_4 rfl ?_
  refine X_newC [some none, none, none] tyX6 72 cS_142 (mOf cL_40) rfl win_X6 tyX6_ok kN_RX5_9 (by decide) (Nat.le_of_ble_eq_true rfl) (Nat.le_of_ble_eq_true rfl) (by decide +kernel) rfl (mOf_n (by decide +kernel)) dX5_init_5 ?_
  refine X_dup dX5_init_8 rfl ?_
  refine X_bipush 8 dX5_init_9 rfl ?_
  refine X_bipush 7 dX5_init_11 rfl ?_
  refine X_iC (μ' := mIX6_1_56) [.int 8, .int 7] [.ref 72, .ref 71] cS_144 (mOf cL_41) kL_RX5_11 kI_mIX6_1_56 rfl rfl dX5_init_13 xI_37 ?_
  refine X_putFR cS_145 kF_RX5_14 rfl (fun q hq => by cases hq; rfl) (show cS_144[71]? = some (.inr (3, [some none, some none, some none, some none, some none, some none, some none, some none, none, none])) by decide +kernel) rfl (fun _ => rfl) (fun _ => rfl) rfl dX5_init_16 ?_
  refine X_aload_n (x := 71) dX5_init_19 rfl ?_
  refine X_newC [some none, none, none] tyX6 74 cS_146 (mOf cL_41) rfl win_X6 tyX6_ok kN_RX5_9 (by decide) (Nat.le_of_ble_eq_true rfl) (Nat.le_of_ble_eq_true rfl) (by decide +kernel) rfl (mOf_n (by decide +kernel)) dX5_init_20 ?_
  refine X_dup dX5_init_23 rfl ?_
  refine X_iconst 4 dX5_init_24 rfl ?_
  refine X_bipush 6 dX5_init_25 rfl ?_
  refine X_iC (μ' := mIX6_1_24) [.int 4, .int 6] [.ref 74, .ref 71] cS_148 (mOf cL_42) kL_RX5_11 kI_mIX6_1_24 rfl rfl dX5_init_27 xI_38 ?_
  refine X_putFR cS_149 kF_RX5_20 rfl (fun q hq => by cases hq; rfl) (show cS_148[71]? = some (.inr (3, [some (some 72), some none, some none, some none, some none, some none, some none, some none, none, none])) by decide +kernel) rfl (fun _ => rfl) (fun _ => rfl) rfl dX5_init_30 ?_
  refine X_aload_n (x := 71) dX5_init_33 rfl ?_
  refine X_newC [some none, none, none] tyX6 76 cS_150 (mOf cL_42) rfl win_X6 tyX6_ok kN_RX5_9 (by decide) (Nat.le_of_ble_eq_true rfl) (Nat.le_of_ble_eq_true rfl) (by decide +kernel) rfl (mOf_n (by decide +kernel)) dX5_init_34 ?_
  refine X_dup dX5_init_37 rfl ?_
  refine X_bipush 16 dX5_init_38 rfl ?_
  refine X_bipush 6 dX5_init_40 rfl ?_
  refine X_iC (μ' := mIX6_1_96) [.int 16, .int 6] [.ref 76, .ref 71] cS_152 (mOf cL_43) kL_RX5_11 kI_mIX6_1_96 rfl rfl dX5_init_42 xI_39 ?_
  refine X_putFR cS_153 kF_RX5_23 rfl (fun q hq => by cases hq; rfl) (show cS_152[71]? = some (.inr (3, [some (some 72), some (some 74), some none, some none, some none, some none, some none, some none, none, none])) by decide +kernel) rfl (fun _ => rfl) (fun _ => rfl) rfl dX5_init_45 ?_
  refine X_aload_n (x := 71) dX5_init_48 rfl ?_
  refine X_newC [some none, none, none] tyX6 78 cS_154 (mOf cL_43) rfl win_X6 tyX6_ok kN_RX5_9 (by decide) (Nat.le_of_ble_eq_true rfl) (Nat.le_of_ble_eq_true rfl) (by decide +kernel) rfl (mOf_n (by decide +kernel)) dX5_init_49 ?_
  refine X_dup dX5_init_52 rfl ?_
  refine X_bipush 64 dX5_init_53 rfl ?_
  refine X_iconst 4 dX5_init_55 rfl ?_
  refine X_iC (μ' := mIX6_1_256) [.int 64, .int 4] [.ref 78, .ref 71] cS_156 (mOf cL_44) kL_RX5_11 kI_mIX6_1_256 rfl rfl dX5_init_56 xI_40 ?_
  refine X_putFR cS_157 kF_RX5_26 rfl (fun q hq => by cases hq; rfl) (show cS_156[71]? = some (.inr (3, [some (some 72), some (some 74), some (some 76), some none, some none, some none, some none, some none, none, none])) by decide +kernel) rfl (fun _ => rfl) (fun _ => rfl) rfl dX5_init_59 ?_
  refine X_aload_n (x := 71) dX5_init_62 rfl ?_
  refine X_newC [some none, none, none] tyX6 80 cS_158 (mOf cL_44) rfl win_X6 tyX6_ok kN_RX5_9 (by decide) (Nat.le_of_ble_eq_true rfl) (Nat.le_of_ble_eq_true rfl) (by decide +kernel) rfl (mOf_n (by decide +kernel)) dX5_init_63 ?_
  refine X_dup dX5_init_66 rfl ?_
  refine X_bipush 24 dX5_init_67 rfl ?_
  refine X_bipush 11 dX5_init_69 rfl ?_
  refine X_iC (μ' := mIX6_1_264) [.int 24, .int 11] [.ref 80, .ref 71] cS_160 (mOf cL_45) kL_RX5_11 kI_mIX6_1_264 rfl rfl dX5_init_71 xI_41 ?_
  refine X_putFR cS_161 kF_RX5_29 rfl (fun q hq => by cases hq; rfl) (show cS_160[71]? = some (.inr (3, [some (some 72), some (some 74), some (some 76), some (some 78), some none, some none, some none, some none, none, none])) by decide +kernel) rfl (fun _ => rfl) (fun _ => rfl) rfl dX5_init_74 ?_
  refine X_aload_n (x := 71) dX5_init_77 rfl ?_
  refine X_newC [some none, none, none] tyX6 82 cS_162 (mOf cL_45) rfl win_X6 tyX6_ok kN_RX5_9 (by decide) (Nat.le_of_ble_eq_true rfl) (Nat.le_of_ble_eq_true rfl) (by decide +kernel) rfl (mOf_n (by decide +kernel)) dX5_init_78 ?_
  refine X_dup dX5_init_81 rfl ?_
  refine X_bipush 24 dX5_init_82 rfl ?_
  refine X_iconst 5 dX5_init_84 rfl ?_
  refine X_iC (μ' := mIX6_1_120) [.int 24, .int 5] [.ref 82, .ref 71] cS_164 (mOf cL_46) kL_RX5_11 kI_mIX6_1_120 rfl rfl dX5_init_85 xI_42 ?_
  refine X_putFR cS_165 kF_RX5_32 rfl (fun q hq => by cases hq; rfl) (show cS_164[71]? = some (.inr (3, [some (some 72), some (some 74), some (some 76), some (some 78), some (some 80), some none, some none, some none, none, none])) by decide +kernel) rfl (fun _ => rfl) (fun _ => rfl) rfl dX5_init_88 ?_
  refine X_aload_n (x := 71) dX5_init_91 rfl ?_
  refine X_newC [some none, none, none] tyX6 84 cS_166 (mOf cL_46) rfl win_X6 tyX6_ok kN_RX5_9 (by decide) (Nat.le_of_ble_eq_true rfl) (Nat.le_of_ble_eq_true rfl) (by decide +kernel) rfl (mOf_n (by decide +kernel)) dX5_init_92 ?_
  refine X_dup dX5_init_95 rfl ?_
  refine X_bipush 16 dX5_init_96 rfl ?_
  refine X_bipush 10 dX5_init_98 rfl ?_
  refine X_iC (μ' := mIX6_1_160) [.int 16, .int 10] [.ref 84, .ref 71] cS_168 (mOf cL_47) kL_RX5_11 kI_mIX6_1_160 rfl rfl dX5_init_100 xI_43 ?_
  refine X_putFR cS_169 kF_RX5_35 rfl (fun q hq => by cases hq; rfl) (show cS_168[71]? = some (.inr (3, [some (some 72), some (some 74), some (some 76), some (some 78), some (some 80), some (some 82), some none, some none, none, none])) by decide +kernel) rfl (fun _ => rfl) (fun _ => rfl) rfl dX5_init_103 ?_
  refine X_aload_n (x := 71) dX5_init_106 rfl ?_
  refine X_newC [some none, none, none] tyX6 86 cS_170 (mOf cL_47) rfl win_X6 tyX6_ok kN_RX5_9 (by decide) (Nat.le_of_ble_eq_true rfl) (Nat.le_of_ble_eq_true rfl) (by decide +kernel) rfl (mOf_n (by decide +kernel)) dX5_init_107 ?_
  refine X_dup dX5_init_110 rfl ?_
  refine X_bipush 8 dX5_init_111 rfl ?_
  refine X_iconst 2 dX5_init_113 rfl ?_
  refine X_iC (μ' := mIX6_1_16) [.int 8, .int 2] [.ref 86, .ref 71] cS_172 (mOf cL_48) kL_RX5_11 kI_mIX6_1_16 rfl rfl dX5_init_114 xI_44 ?_
  refine X_putFR cS_173 kF_RX5_38 rfl (fun q hq => by cases hq; rfl) (show cS_172[71]? = some (.inr (3, [some (some 72), some (some 74), some (some 76), some (some 78), some (some 80), some (some 82), some (some 84), some none, none, none])) by decide +kernel) rfl (fun _ => rfl) (fun _ => rfl) rfl dX5_init_117 ?_
  refine X_aload_n (x := 71) dX5_init_120 rfl ?_
  refine X_get (v := .ref 78) kF_RX5_26 (show cS_173[71]? = some (.inr (3, [some (some 72), some (some 74), some (some 76), some (some 78), some (some 80), some (some 82), some (some 84), some (some 86), none, none])) by decide +kernel) rfl rfl dX5_init_121 ?_
  refine X_bipush 64 dX5_init_124 rfl ?_
  refine X_putIC (mOf cL_49) kF_RX5_41 (show cS_173[78]? = some (.inr (4, [some (some 79), none, none])) by decide +kernel) rfl rfl rfl mOf_w dX5_init_126 ?_
  refine X_aload_n (x := 71) dX5_init_129 rfl ?_
  refine X_get (v := .ref 86) kF_RX5_38 (show cS_173[71]? = some (.inr (3, [some (some 72), some (some 74), some (some 76), some (some 78), some (some 80), some (some 82), some (some 84), some (some 86), none, none])) by decide +kernel) rfl rfl dX5_init_130 ?_
  refine X_bipush 8 dX5_init_133 rfl ?_
  refine X_putIC (mOf cL_50) kF_RX5_41 (show cS_173[86]? = some (.inr (4, [some (some 87), none, none])) by decide +kernel) rfl rfl rfl mOf_w dX5_init_135 ?_
  exact X_return dX5_init_138 rfl (Nat.le_refl _) (Nat.le_refl _) ⟨rfl, rfl, rfl⟩
set_option maxHeartbeats 1000000 in
theorem xI_46 {ξ : xX} : X ξ mIX6_1_56 0 [.ref 89, .int 8, .int 7] [] cS_176 (mOf cL_50) 0 0 (xr none cS_178 (mOf cL_51)) := by
  refine X_aload_n (x := 89) dX6_init_0 rfl ?_
  refine X_obj kO_RX6_1 (Nat.le_of_ble_eq_true rfl) (Nat.le_of_ble_eq_true rfl) dX6_init_1 ?_
  refine X_aload_n (x := 89) dX6_init_4 rfl ?_
  refine X_iconst 0 dX6_init_5 rfl ?_
  refine X_iload_n (x := 8) dX6_init_6 rfl ?_
  refine X_iload_n (x := 7) dX6_init_7 rfl ?_
  refine X_imul dX6_init_8 ?_
  refine X_max kJ_RX6_7 (Nat.le_of_ble_eq_true rfl) (Nat.le_of_ble_eq_true rfl) (Nat.le_of_ble_eq_true rfl) (Nat.le_of_ble_eq_true rfl) dX6_init_9 ?_
  refine X_newaC 0 56 90 cS_177 (mOf cL_50) ⟨rfl, rfl⟩ kA_0 (by decide) (by decide) (Nat.le_of_ble_eq_true rfl) (Nat.le_of_ble_eq_true rfl) (Nat.le_of_ble_eq_true rfl) (by decide +kernel) rfl (mOf_n (by decide +kernel)) dX6_init_12 ?_
  refine X_putFR cS_178 kF_RX6_13 rfl (fun q hq => by cases hq; rfl) (show cS_177[89]? = some (.inr (4, [some none, none, none])) by decide +kernel) rfl (fun _ => rfl) (fun _ => rfl) rfl dX6_init_14 ?_
  refine X_aload_n (x := 89) dX6_init_17 rfl ?_
  refine X_iload_n (x := 7) dX6_init_18 rfl ?_
  refine X_putFIC (mOf cL_51) kF_RX6_19 rfl (fun q hq => by cases hq; rfl) (show cS_178[89]? = some (.inr (4, [some (some 90), none, none])) by decide +kernel) rfl rfl rfl mOf_w dX6_init_19 ?_
  exact X_return dX6_init_22 rfl (Nat.le_refl _) (Nat.le_refl _) ⟨rfl, rfl, rfl⟩
set_option maxHeartbeats 1000000 in
theorem xI_47 {ξ : xX} : X ξ mIX6_1_24 0 [.ref 91, .int 4, .int 6] [] cS_180 (mOf cL_51) 0 0 (xr none cS_182 (mOf cL_52)) := by
  refine X_aload_n (x := 91) dX6_init_0 rfl ?_
  refine X_obj kO_RX6_1 (Nat.le_of_ble_eq_true rfl) (Nat.le_of_ble_eq_true rfl) dX6_init_1 ?_
  refine X_aload_n (x := 91) dX6_init_4 rfl ?_
  refine X_iconst 0 dX6_init_5 rfl ?_
  refine X_iload_n (x := 4) dX6_init_6 rfl ?_
  refine X_iload_n (x := 6) dX6_init_7 rfl ?_
  refine X_imul dX6_init_8 ?_
  refine X_max kJ_RX6_7 (Nat.le_of_ble_eq_true rfl) (Nat.le_of_ble_eq_true rfl) (Nat.le_of_ble_eq_true rfl) (Nat.le_of_ble_eq_true rfl) dX6_init_9 ?_
  refine X_newaC 0 24 92 cS_181 (mOf cL_51) ⟨rfl, rfl⟩ kA_0 (by decide) (by decide) (Nat.le_of_ble_eq_true rfl) (Nat.le_of_ble_eq_true rfl) (Nat.le_of_ble_eq_true rfl) (by decide +kernel) rfl (mOf_n (by decide +kernel)) dX6_init_12 ?_
  refine X_putFR cS_182 kF_RX6_13 rfl (fun q hq => by cases hq; rfl) (show cS_181[91]? = some (.inr (4, [some none, none, none])) by decide +kernel) rfl (fun _ => rfl) (fun _ => rfl) rfl dX6_init_14 ?_
  refine X_aload_n (x := 91) dX6_init_17 rfl ?_
  refine X_iload_n (x := 6) dX6_init_18 rfl ?_
  refine X_putFIC (mOf cL_52) kF_RX6_19 rfl (fun q hq => by cases hq; rfl) (show cS_182[91]? = some (.inr (4, [some (some 92), none, none])) by decide +kernel) rfl rfl rfl mOf_w dX6_init_19 ?_
  exact X_return dX6_init_22 rfl (Nat.le_refl _) (Nat.le_refl _) ⟨rfl, rfl, rfl⟩
set_option maxHeartbeats 1000000 in
theorem xI_48 {ξ : xX} : X ξ mIX6_1_96 0 [.ref 93, .int 16, .int 6] [] cS_184 (mOf cL_52) 0 0 (xr none cS_186 (mOf cL_53)) := by
  refine X_aload_n (x := 93) dX6_init_0 rfl ?_
  refine X_obj kO_RX6_1 (Nat.le_of_ble_eq_true rfl) (Nat.le_of_ble_eq_true rfl) dX6_init_1 ?_
  refine X_aload_n (x := 93) dX6_init_4 rfl ?_
  refine X_iconst 0 dX6_init_5 rfl ?_
  refine X_iload_n (x := 16) dX6_init_6 rfl ?_
  refine X_iload_n (x := 6) dX6_init_7 rfl ?_
  refine X_imul dX6_init_8 ?_
  refine X_max kJ_RX6_7 (Nat.le_of_ble_eq_true rfl) (Nat.le_of_ble_eq_true rfl) (Nat.le_of_ble_eq_true rfl) (Nat.le_of_ble_eq_true rfl) dX6_init_9 ?_
  refine X_newaC 0 96 94 cS_185 (mOf cL_52) ⟨rfl, rfl⟩ kA_0 (by decide) (by decide) (Nat.le_of_ble_eq_true rfl) (Nat.le_of_ble_eq_true rfl) (Nat.le_of_ble_eq_true rfl) (by decide +kernel) rfl (mOf_n (by decide +kernel)) dX6_init_12 ?_
  refine X_putFR cS_186 kF_RX6_13 rfl (fun q hq => by cases hq; rfl) (show cS_185[93]? = some (.inr (4, [some none, none, none])) by decide +kernel) rfl (fun _ => rfl) (fun _ => rfl) rfl dX6_init_14 ?_
  refine X_aload_n (x := 93) dX6_init_17 rfl ?_
  refine X_iload_n (x := 6) dX6_init_18 rfl ?_
  refine X_putFIC (mOf cL_53) kF_RX6_19 rfl (fun q hq => by cases hq; rfl) (show cS_186[93]? = some (.inr (4, [some (some 94), none, none])) by decide +kernel) rfl rfl rfl mOf_w dX6_init_19 ?_
  exact X_return dX6_init_22 rfl (Nat.le_refl _) (Nat.le_refl _) ⟨rfl, rfl, rfl⟩
set_option maxHeartbeats 1000000 in
theorem xI_49 {ξ : xX} : X ξ mIX6_1_256 0 [.ref 95, .int 64, .int 4] [] cS_188 (mOf cL_53) 0 0 (xr none cS_190 (mOf cL_54)) := by
  refine X_aload_n (x := 95) dX6_init_0 rfl ?_
  refine X_obj kO_RX6_1 (Nat.le_of_ble_eq_true rfl) (Nat.le_of_ble_eq_true rfl) dX6_init_1 ?_
  refine X_aload_n (x := 95) dX6_init_4 rfl ?_
  refine X_iconst 0 dX6_init_5 rfl ?_
  refine X_iload_n (x := 64) dX6_init_6 rfl ?_
  refine X_iload_n (x := 4) dX6_init_7 rfl ?_
  refine X_imul dX6_init_8 ?_
  refine X_max kJ_RX6_7 (Nat.le_of_ble_eq_true rfl) (Nat.le_of_ble_eq_true rfl) (Nat.le_of_ble_eq_true rfl) (Nat.le_of_ble_eq_true rfl) dX6_init_9 ?_
  refine X_newaC 0 256 96 cS_189 (mOf cL_53) ⟨rfl, rfl⟩ kA_0 (by decide) (by decide) (Nat.le_of_ble_eq_true rfl) (Nat.le_of_ble_eq_true rfl) (Nat.le_of_ble_eq_true rfl) (by decide +kernel) rfl (mOf_n (by decide +kernel)) dX6_init_12 ?_
  refine X_putFR cS_190 kF_RX6_13 rfl (fun q hq => by cases hq; rfl) (show cS_189[95]? = some (.inr (4, [some none, none, none])) by decide +kernel) rfl (fun _ => rfl) (fun _ => rfl) rfl dX6_init_14 ?_
  refine X_aload_n (x := 95) dX6_init_17 rfl ?_
  refine X_iload_n (x := 4) dX6_init_18 rfl ?_
  refine X_putFIC (mOf cL_54) kF_RX6_19 rfl (fun q hq => by cases hq; rfl) (show cS_190[95]? = some (.inr (4, [some (some 96), none, none])) by decide +kernel) rfl rfl rfl mOf_w dX6_init_19 ?_
  exact X_return dX6_init_22 rfl (Nat.le_refl _) (Nat.le_refl _) ⟨rfl, rfl, rfl⟩
set_option maxHeartbeats 1000000 in
theorem xI_50 {ξ : xX} : X ξ mIX6_1_264 0 [.ref 97, .int 24, .int 11] [] cS_192 (mOf cL_54) 0 0 (xr none cS_194 (mOf cL_55)) := by
  refine X_aload_n (x := 97) dX6_init_0 rfl ?_
  refine X_obj kO_RX6_1 (Nat.le_of_ble_eq_true rfl) (Nat.le_of_ble_eq_true rfl) dX6_init_1 ?_
  refine X_aload_n (x := 97) dX6_init_4 rfl ?_
  refine X_iconst 0 dX6_init_5 rfl ?_
  refine X_iload_n (x := 24) dX6_init_6 rfl ?_
  refine X_iload_n (x := 11) dX6_init_7 rfl ?_
  refine X_imul dX6_init_8 ?_
  refine X_max kJ_RX6_7 (Nat.le_of_ble_eq_true rfl) (Nat.le_of_ble_eq_true rfl) (Nat.le_of_ble_eq_true rfl) (Nat.le_of_ble_eq_true rfl) dX6_init_9 ?_
  refine X_newaC 0 264 98 cS_193 (mOf cL_54) ⟨rfl, rfl⟩ kA_0 (by decide) (by decide) (Nat.le_of_ble_eq_true rfl) (Nat.le_of_ble_eq_true rfl) (Nat.le_of_ble_eq_true rfl) (by decide +kernel) rfl (mOf_n (by decide +kernel)) dX6_init_12 ?_
  refine X_putFR cS_194 kF_RX6_13 rfl (fun q hq => by cases hq; rfl) (show cS_193[97]? = some (.inr (4, [some none, none, none])) by decide +kernel) rfl (fun _ => rfl) (fun _ => rfl) rfl dX6_init_14 ?_
  refine X_aload_n (x := 97) dX6_init_17 rfl ?_
  refine X_iload_n (x := 11) dX6_init_18 rfl ?_
  refine X_putFIC (mOf cL_55) kF_RX6_19 rfl (fun q hq => by cases hq; rfl) (show cS_194[97]? = some (.inr (4, [some (some 98), none, none])) by decide +kernel) rfl rfl rfl mOf_w dX6_init_19 ?_
  exact X_return dX6_init_22 rfl (Nat.le_refl _) (Nat.le_refl _) ⟨rfl, rfl, rfl⟩
set_option maxHeartbeats 1000000 in
theorem xI_51 {ξ : xX} : X ξ mIX6_1_120 0 [.ref 99, .int 24, .int 5] [] cS_196 (mOf cL_55) 0 0 (xr none cS_198 (mOf cL_56)) := by
  refine X_aload_n (x := 99) dX6_init_0 rfl ?_
  refine X_obj kO_RX6_1 (Nat.le_of_ble_eq_true rfl) (Nat.le_of_ble_eq_true rfl) dX6_init_1 ?_
  refine X_aload_n (x := 99) dX6_init_4 rfl ?_
  refine X_iconst 0 dX6_init_5 rfl ?_
  refine X_iload_n (x := 24) dX6_init_6 rfl ?_
  refine X_iload_n (x := 5) dX6_init_7 rfl ?_
  refine X_imul dX6_init_8 ?_
  refine X_max kJ_RX6_7 (Nat.le_of_ble_eq_true rfl) (Nat.le_of_ble_eq_true rfl) (Nat.le_of_ble_eq_true rfl) (Nat.le_of_ble_eq_true rfl) dX6_init_9 ?_
  refine X_newaC 0 120 100 cS_197 (mOf cL_55) ⟨rfl, rfl⟩ kA_0 (by decide) (by decide) (Nat.le_of_ble_eq_true rfl) (Nat.le_of_ble_eq_true rfl) (Nat.le_of_ble_eq_true rfl) (by decide +kernel) rfl (mOf_n (by decide +kernel)) dX6_init_12 ?_
  refine X_putFR cS_198 kF_RX6_13 rfl (fun q hq => by cases hq; rfl) (show cS_197[99]? = some (.inr (4, [some none, none, none])) by decide +kernel) rfl (fun _ => rfl) (fun _ => rfl) rfl dX6_init_14 ?_
  refine X_aload_n (x := 99) dX6_init_17 rfl ?_
  refine X_iload_n (x := 5) dX6_init_18 rfl ?_
  refine X_putFIC (mOf cL_56) kF_RX6_19 rfl (fun q hq => by cases hq; rfl) (show cS_198[99]? = some (.inr (4, [some (some 100), none, none])) by decide +kernel) rfl rfl rfl mOf_w dX6_init_19 ?_
  exact X_return dX6_init_22 rfl (Nat.le_refl _) (Nat.le_refl _) ⟨rfl, rfl, rfl⟩
set_option maxHeartbeats 1000000 in
theorem xI_52 {ξ : xX} : X ξ mIX6_1_160 0 [.ref 101, .int 16, .int 10] [] cS_200 (mOf cL_56) 0 0 (xr none cS_202 (mOf cL_57)) := by
  refine X_aload_n (x := 101) dX6_init_0 rfl ?_
  refine X_obj kO_RX6_1 (Nat.le_of_ble_eq_true rfl) (Nat.le_of_ble_eq_true rfl) dX6_init_1 ?_
  refine X_aload_n (x := 101) dX6_init_4 rfl ?_
  refine X_iconst 0 dX6_init_5 rfl ?_
  refine X_iload_n (x := 16) dX6_init_6 rfl ?_
  refine X_iload_n (x := 10) dX6_init_7 rfl ?_
  refine X_imul dX6_init_8 ?_
  refine X_max kJ_RX6_7 (Nat.le_of_ble_eq_true rfl) (Nat.le_of_ble_eq_true rfl) (Nat.le_of_ble_eq_true rfl) (Nat.le_of_ble_eq_true rfl) dX6_init_9 ?_
  refine X_newaC 0 160 102 cS_201 (mOf cL_56) ⟨rfl, rfl⟩ kA_0 (by decide) (by decide) (Nat.le_of_ble_eq_true rfl) (Nat.le_of_ble_eq_true rfl) (Nat.le_of_ble_eq_true rfl) (by decide +kernel) rfl (mOf_n (by decide +kernel)) dX6_init_12 ?_
  refine X_putFR cS_202 kF_RX6_13 rfl (fun q hq => by cases hq; rfl) (show cS_201[101]? = some (.inr (4, [some none, none, none])) by decide +kernel) rfl (fun _ => rfl) (fun _ => rfl) rfl dX6_init_14 ?_
  refine X_aload_n (x := 101) dX6_init_17 rfl ?_
  refine X_iload_n (x := 10) dX6_init_18 rfl ?_
  refine X_putFIC (mOf cL_57) kF_RX6_19 rfl (fun q hq => by cases hq; rfl) (show cS_202[101]? = some (.inr (4, [some (some 102), none, none])) by decide +kernel) rfl rfl rfl mOf_w dX6_init_19 ?_
  exact X_return dX6_init_22 rfl (Nat.le_refl _) (Nat.le_refl _) ⟨rfl, rfl, rfl⟩
set_option maxHeartbeats 1000000 in
theorem xI_53 {ξ : xX} : X ξ mIX6_1_16 0 [.ref 103, .int 8, .int 2] [] cS_204 (mOf cL_57) 0 0 (xr none cS_206 (mOf cL_58)) := by
  refine X_aload_n (x := 103) dX6_init_0 rfl ?_
  refine X_obj kO_RX6_1 (Nat.le_of_ble_eq_true rfl) (Nat.le_of_ble_eq_true rfl) dX6_init_1 ?_
  refine X_aload_n (x := 103) dX6_init_4 rfl ?_
  refine X_iconst 0 dX6_init_5 rfl ?_
  refine X_iload_n (x := 8) dX6_init_6 rfl ?_
  refine X_iload_n (x := 2) dX6_init_7 rfl ?_
  refine X_imul dX6_init_8 ?_
  refine X_max kJ_RX6_7 (Nat.le_of_ble_eq_true rfl) (Nat.le_of_ble_eq_true rfl) (Nat.le_of_ble_eq_true rfl) (Nat.le_of_ble_eq_true rfl) dX6_init_9 ?_
  refine X_newaC 0 16 104 cS_205 (mOf cL_57) ⟨rfl, rfl⟩ kA_0 (by decide) (by decide) (Nat.le_of_ble_eq_true rfl) (Nat.le_of_ble_eq_true rfl) (Nat.le_of_ble_eq_true rfl) (by decide +kernel) rfl (mOf_n (by decide +kernel)) dX6_init_12 ?_
  refine X_putFR cS_206 kF_RX6_13 rfl (fun q hq => by cases hq; rfl) (show cS_205[103]? = some (.inr (4, [some none, none, none])) by decide +kernel) rfl (fun _ => rfl) (fun _ => rfl) rfl dX6_init_14 ?_
  refine X_aload_n (x := 103) dX6_init_17 rfl ?_
  refine X_iload_n (x := 2) dX6_init_18 rfl ?_
  refine X_putFIC (mOf cL_58) kF_RX6_19 rfl (fun q hq => by cases hq; rfl) (show cS_206[103]? = some (.inr (4, [some (some 104), none, none])) by decide +kernel) rfl rfl rfl mOf_w dX6_init_19 ?_
  exact X_return dX6_init_22 rfl (Nat.le_refl _) (Nat.le_refl _) ⟨rfl, rfl, rfl⟩
set_option maxHeartbeats 1000000 in
theorem xI_54 {ξ : xX} : X ξ mIX5_16_1016 0 [.ref 88] [] cS_175 (mOf cL_50) 0 0 (xr none cS_207 (mOf cL_60)) := by
  refine X_aload_n (x := 88) dX5_init_0 rfl ?_
  refine X_obj kO_RX5_3 (Nat.le_of_ble_eq_true rfl) (Nat.le_of_ble_eq_true rfl) dX5_init_1 ?_
  refine X_aload_n (x := 88) dX5_init_4 rfl ?_
  refine X_newC [some none, none, none] tyX6 89 cS_176 (mOf cL_50) rfl win_X6 tyX6_ok kN_RX5_9 (by decide) (Nat.le_of_ble_eq_true rfl) (Nat.le_of_ble_eq_true rfl) (by decide +kernel) rfl (mOf_n (by decide +kernel)) dX5_init_5 ?_
  refine X_dup dX5_init_8 rfl ?_
  refine X_bipush 8 dX5_init_9 rfl ?_
  refine X_bipush 7 dX5_init_11 rfl ?_
  refine X_iC (μ' := mIX6_1_56) [.int 8, .int 7] [.ref 89, .ref 88] cS_178 (mOf cL_51) kL_RX5_11 kI_mIX6_1_56 rfl rfl dX5_init_13 xI_46 ?_
  refine X_putFR cS_179 kF_RX5_14 rfl (fun q hq => by cases hq; rfl) (show cS_178[88]? = some (.inr (3, [some none, some none, some none, some none, some none, some none, some none, some none, none, none])) by decide +kernel) rfl (fun _ => rfl) (fun _ => rfl) rfl dX5_init_16 ?_
  refine X_aload_n (x := 88) dX5_init_19 rfl ?_
  refine X_newC [some none, none, none] tyX6 91 cS_180 (mOf cL_51) rfl win_X6 tyX6_ok kN_RX5_9 (by decide) (Nat.le_of_ble_eq_true rfl) (Nat.le_of_ble_eq_true rfl) (by decide +kernel) rfl (mOf_n (by decide +kernel)) dX5_init_20 ?_
  refine X_dup dX5_init_23 rfl ?_
  refine X_iconst 4 dX5_init_24 rfl ?_
  refine X_bipush 6 dX5_init_25 rfl ?_
  refine X_iC (μ' := mIX6_1_24) [.int 4, .int 6] [.ref 91, .ref 88] cS_182 (mOf cL_52) kL_RX5_11 kI_mIX6_1_24 rfl rfl dX5_init_27 xI_47 ?_
  refine X_putFR cS_183 kF_RX5_20 rfl (fun q hq => by cases hq; rfl) (show cS_182[88]? = some (.inr (3, [some (some 89), some none, some none, some none, some none, some none, some none, some none, none, none])) by decide +kernel) rfl (fun _ => rfl) (fun _ => rfl) rfl dX5_init_30 ?_
  refine X_aload_n (x := 88) dX5_init_33 rfl ?_
  refine X_newC [some none, none, none] tyX6 93 cS_184 (mOf cL_52) rfl win_X6 tyX6_ok kN_RX5_9 (by decide) (Nat.le_of_ble_eq_true rfl) (Nat.le_of_ble_eq_true rfl) (by decide +kernel) rfl (mOf_n (by decide +kernel)) dX5_init_34 ?_
  refine X_dup dX5_init_37 rfl ?_
  refine X_bipush 16 dX5_init_38 rfl ?_
  refine X_bipush 6 dX5_init_40 rfl ?_
  refine X_iC (μ' := mIX6_1_96) [.int 16, .int 6] [.ref 93, .ref 88] cS_186 (mOf cL_53) kL_RX5_11 kI_mIX6_1_96 rfl rfl dX5_init_42 xI_48 ?_
  refine X_putFR cS_187 kF_RX5_23 rfl (fun q hq => by cases hq; rfl) (show cS_186[88]? = some (.inr (3, [some (some 89), some (some 91), some none, some none, some none, some none, some none, some none, none, none])) by decide +kernel) rfl (fun _ => rfl) (fun _ => rfl) rfl dX5_init_45 ?_
  refine X_aload_n (x := 88) dX5_init_48 rfl ?_
  refine X_newC [some none, none, none] tyX6 95 cS_188 (mOf cL_53) rfl win_X6 tyX6_ok kN_RX5_9 (by decide) (Nat.le_of_ble_eq_true rfl) (Nat.le_of_ble_eq_true rfl) (by decide +kernel) rfl (mOf_n (by decide +kernel)) dX5_init_49 ?_
  refine X_dup dX5_init_52 rfl ?_
  refine X_bipush 64 dX5_init_53 rfl ?_
  refine X_iconst 4 dX5_init_55 rfl ?_
  refine X_iC (μ' := mIX6_1_256) [.int 64, .int 4] [.ref 95, .ref 88] cS_190 (mOf cL_54) kL_RX5_11 kI_mIX6_1_256 rfl rfl dX5_init_56 xI_49 ?_
  refine X_putFR cS_191 kF_RX5_26 rfl (fun q hq => by cases hq; rfl) (show cS_190[88]? = some (.inr (3, [some (some 89), some (some 91), some (some 93), some none, some none, some none, some none, some none, none, none])) by decide +kernel) rfl (fun _ => rfl) (fun _ => rfl) rfl dX5_init_59 ?_
  refine X_aload_n (x := 88) dX5_init_62 rfl ?_
  refine X_newC [some none, none, none] tyX6 97 cS_192 (mOf cL_54) rfl win_X6 tyX6_ok kN_RX5_9 (by decide) (Nat.le_of_ble_eq_true rfl) (Nat.le_of_ble_eq_true rfl) (by decide +kernel) rfl (mOf_n (by decide +kernel)) dX5_init_63 ?_
  refine X_dup dX5_init_66 rfl ?_
  refine X_bipush 24 dX5_init_67 rfl ?_
  refine X_bipush 11 dX5_init_69 rfl ?_
  refine X_iC (μ' := mIX6_1_264) [.int 24, .int 11] [.ref 97, .ref 88] cS_194 (mOf cL_55) kL_RX5_11 kI_mIX6_1_264 rfl rfl dX5_init_71 xI_50 ?_
  refine X_putFR cS_195 kF_RX5_29 rfl (fun q hq => by cases hq; rfl) (show cS_194[88]? = some (.inr (3, [some (some 89), some (some 91), some (some 93), some (some 95), some none, some none, some none, some none, none, none])) by decide +kernel) rfl (fun _ => rfl) (fun _ => rfl) rfl dX5_init_74 ?_
  refine X_aload_n (x := 88) dX5_init_77 rfl ?_
  refine X_newC [some none, none, none] tyX6 99 cS_196 (mOf cL_55) rfl win_X6 tyX6_ok kN_RX5_9 (by decide) (Nat.le_of_ble_eq_true rfl) (Nat.le_of_ble_eq_true rfl) (by decide +kernel) rfl (mOf_n (by decide +kernel)) dX5_init_78 ?_
  refine X_dup dX5_init_81 rfl ?_
  refine X_bipush 24 dX5_init_82 rfl ?_
  refine X_iconst 5 dX5_init_84 rfl ?_
  refine X_iC (μ' := mIX6_1_120) [.int 24, .int 5] [.ref 99, .ref 88] cS_198 (mOf cL_56) kL_RX5_11 kI_mIX6_1_120 rfl rfl dX5_init_85 xI_51 ?_
  refine X_putFR cS_199 kF_RX5_32 rfl (fun q hq => by cases hq; rfl) (show cS_198[88]? = some (.inr (3, [some (some 89), some (some 91), some (some 93), some (some 95), some (some 97), some none, some none, some none, none, none])) by decide +kernel) rfl (fun _ => rfl) (fun _ => rfl) rfl dX5_init_88 ?_
  refine X_aload_n (x := 88) dX5_init_91 rfl ?_
  refine X_newC [some none, none, none] tyX6 101 cS_200 (mOf cL_56) rfl win_X6 tyX6_ok kN_RX5_9 (by decide) (Nat.le_of_ble_eq_true rfl) (Nat.le_of_ble_eq_true rfl) (by decide +kernel) rfl (mOf_n (by decide +kernel)) dX5_init_92 ?_
  refine X_dup dX5_init_95 rfl ?_
  refine X_bipush 16 dX5_init_96 rfl ?_
  refine X_bipush 10 dX5_init_98 rfl ?_
  refine X_iC (μ' := mIX6_1_160) [.int 16, .int 10] [.ref 101, .ref 88] cS_202 (mOf cL_57) kL_RX5_11 kI_mIX6_1_160 rfl rfl dX5_init_100 xI_52 ?_
  refine X_putFR cS_203 kF_RX5_35 rfl (fun q hq => by cases hq; rfl) (show cS_202[88]? = some (.inr (3, [some (some 89), some (some 91), some (some 93), some (some 95), some (some 97), some (some 99), some none, some none, none, none])) by decide +kernel) rfl (fun _ => rfl) (fun _ => rfl) rfl dX5_init_103 ?_
  refine X_aload_n (x := 88) dX5_init_106 rfl ?_
  refine X_newC [some none, none, none] tyX6 103 cS_204 (mOf cL_57) rfl win_X6 tyX6_ok kN_RX5_9 (by decide) (Nat.le_of_ble_eq_true rfl) (Nat.le_of_ble_eq_true rfl) (by decide +kernel) rfl (mOf_n (by decide +kernel)) dX5_init_107 ?_
  refine X_dup dX5_init_110 rfl ?_
  refine X_bipush 8 dX5_init_111 rfl ?_
  refine X_iconst 2 dX5_init_113 rfl ?_
  refine X_iC (μ' := mIX6_1_16) [.int 8, .int 2] [.ref 103, .ref 88] cS_206 (mOf cL_58) kL_RX5_11 kI_mIX6_1_16 rfl rfl dX5_init_114 xI_53 ?_
  refine X_putFR cS_207 kF_RX5_38 rfl (fun q hq => by cases hq; rfl) (show cS_206[88]? = some (.inr (3, [some (some 89), some (some 91), some (some 93), some (some 95), some (some 97), some (some 99), some (some 101), some none, none, none])) by decide +kernel) rfl (fun _ => rfl) (fun _ => rfl) rfl dX5_init_117 ?_
  refine X_aload_n (x := 88) dX5_init_120 rfl ?_
  refine X_get (v := .ref 95) kF_RX5_26 (show cS_207[88]? = some (.inr (3, [some (some 89), some (some 91), some (some 93), some (some 95), some (some 97), some (some 99), some (some 101), some (some 103), none, none])) by decide +kernel) rfl rfl dX5_init_121 ?_
  refine X_bipush 64 dX5_init_124 rfl ?_
  refine X_putIC (mOf cL_59) kF_RX5_41 (show cS_207[95]? = some (.inr (4, [some (some 96), none, none])) by decide +kernel) rfl rfl rfl mOf_w dX5_init_126 ?_
  refine X_aload_n (x := 88) dX5_init_129 rfl ?_
  refine X_get (v := .ref 103) kF_RX5_38 (show cS_207[88]? = some (.inr (3, [some (some 89), some (some 91), some (some 93), some (some 95), some (some 97), some (some 99), some (some 101), some (some 103), none, none])) by decide +kernel) rfl rfl dX5_init_130 ?_
  refine X_bipush 8 dX5_init_133 rfl ?_
  refine X_putIC (mOf cL_60) kF_RX5_41 (show cS_207[103]? = some (.inr (4, [some (some 104), none, none])) by decide +kernel) rfl rfl rfl mOf_w dX5_init_135 ?_
  exact X_return dX5_init_138 rfl (Nat.le_refl _) (Nat.le_refl _) ⟨rfl, rfl, rfl⟩
set_option maxHeartbeats 1000000 in
theorem xI_55 {ξ : xX} : X ξ mIX1_86_5135 0 [.ref 18] [] cS_36 (mOf cL_10) 0 0 (xr none cS_208 (mOf cL_60)) := by
  refine X_aload_n (x := 18) dX1_init_0 rfl ?_
  refine X_obj kO_RX1_1 (Nat.le_of_ble_eq_true rfl) (Nat.le_of_ble_eq_true rfl) dX1_init_1 ?_
  refine X_aload_n (x := 18) dX1_init_4 rfl ?_
  refine X_iconst 5 dX1_init_5 rfl ?_
  refine X_anewC 5 19 cS_37 (mOf cL_10) kN_anew kA_over (by decide) (by decide) (Nat.le_of_ble_eq_true rfl) (Nat.le_of_ble_eq_true rfl) (Nat.le_of_ble_eq_true rfl) (by decide +kernel) rfl (mOf_n (by decide +kernel)) dX1_init_6 ?_
  refine X_putFR cS_38 kF_RX1_11 rfl (fun q hq => by cases hq; rfl) (show cS_37[18]? = some (.inr (1, [some none, none, none])) by decide +kernel) rfl (fun _ => rfl) (fun _ => rfl) rfl dX1_init_9 ?_
  refine X_iconst 0 dX1_init_12 rfl ?_
  refine X_istore_n [.ref 18, .int 0] dX1_init_13 (Nat.le_of_ble_eq_true rfl) (Nat.le_of_ble_eq_true rfl) (xcat1_of rfl) rfl ?_
  refine X_iload_n (x := 0) dX1_init_14 rfl ?_
  refine X_aload_n (x := 18) dX1_init_15 rfl ?_
  refine X_get (v := .ref 19) kF_RX1_11 (show cS_38[18]? = some (.inr (1, [some (some 19), none, none])) by decide +kernel) rfl rfl dX1_init_16 ?_
  refine X_alen 5 (show cS_38[19]? = some (.inl (2, 5, [])) by decide +kernel) rfl dX1_init_19 ?_
  refine X_icmp_geF 42 dX1_init_20 (by decide) (by decide) ?_
  refine X_aload_n (x := 18) dX1_init_23 rfl ?_
  refine X_get (v := .ref 19) kF_RX1_11 (show cS_38[18]? = some (.inr (1, [some (some 19), none, none])) by decide +kernel) rfl rfl dX1_init_24 ?_
  refine X_iload_n (x := 0) dX1_init_27 rfl ?_
  refine X_newC [some none, some none, some none, some none, some none, some none, some none, some none, none, none] tyX5 20 cS_39 (mOf cL_10) rfl win_X5 tyX5_ok kN_RX1_9 (by decide) (Nat.le_of_ble_eq_true rfl) (Nat.le_of_ble_eq_true rfl) (by decide +kernel) rfl (mOf_n (by decide +kernel)) dX1_init_28 ?_
  refine X_dup dX1_init_31 rfl ?_
  refine X_iC (μ' := mIX5_16_1016) [] [.ref 20, .int 0, .ref 19] cS_71 (mOf cL_20) kL_RX1_15 kI_mIX5_16_1016 rfl rfl dX1_init_32 xI_18 ?_
  refine X_aast [some 20] cS_72 (show cS_71[19]? = some (.inl (2, 5, [])) by decide +kernel) (show cS_71[20]? = some (.inr (3, [some (some 21), some (some 23), some (some 25), some (some 27), some (some 29), some (some 31), some (some 33), some (some 35), none, none])) by decide +kernel) rfl rfl (by decide) xrs_0 rfl dX1_init_35 ?_
  refine X_iinc (x := 0) 1 [.ref 18, .int 1] dX1_init_36 rfl rfl (Nat.le_of_ble_eq_true rfl) (xcat1_of rfl) rfl ?_
  refine X_goto 14 dX1_init_39 (by decide) ?_
  refine X_iload_n (x := 1) dX1_init_14 rfl ?_
  refine X_aload_n (x := 18) dX1_init_15 rfl ?_
  refine X_get (v := .ref 19) kF_RX1_11 (show cS_72[18]? = some (.inr (1, [some (some 19), none, none])) by decide +kernel) rfl rfl dX1_init_16 ?_
  refine X_alen 5 (show cS_72[19]? = some (.inl (2, 5, [some 20])) by decide +kernel) rfl dX1_init_19 ?_
  refine X_icmp_geF 42 dX1_init_20 (by decide) (by decide) ?_
  refine X_aload_n (x := 18) dX1_init_23 rfl ?_
  refine X_get (v := .ref 19) kF_RX1_11 (show cS_72[18]? = some (.inr (1, [some (some 19), none, none])) by decide +kernel) rfl rfl dX1_init_24 ?_
  refine X_iload_n (x := 1) dX1_init_27 rfl ?_
  refine X_newC [some none, some none, some none, some none, some none, some none, some none, some none, none, none] tyX5 37 cS_73 (mOf cL_20) rfl win_X5 tyX5_ok kN_RX1_9 (by decide) (Nat.le_of_ble_eq_true rfl) (Nat.le_of_ble_eq_true rfl) (by decide +kernel) rfl (mOf_n (by decide +kernel)) dX1_init_28 ?_
  refine X_dup dX1_init_31 rfl ?_
  refine X_iC (μ' := mIX5_16_1016) [] [.ref 37, .int 1, .ref 19] cS_105 (mOf cL_30) kL_RX1_15 kI_mIX5_16_1016 rfl rfl dX1_init_32 xI_27 ?_
  refine X_aast [some 20, some 37] cS_106 (show cS_105[19]? = some (.inl (2, 5, [some 20])) by decide +kernel) (show cS_105[37]? = some (.inr (3, [some (some 38), some (some 40), some (some 42), some (some 44), some (some 46), some (some 48), some (some 50), some (some 52), none, none])) by decide +kernel) rfl rfl (by decide) xrs_1 rfl dX1_init_35 ?_
  refine X_iinc (x := 1) 1 [.ref 18, .int 2] dX1_init_36 rfl rfl (Nat.le_of_ble_eq_true rfl) (xcat1_of rfl) rfl ?_
  refine X_goto 14 dX1_init_39 (by decide) ?_
  refine X_iload_n (x := 2) dX1_init_14 rfl ?_
  refine X_aload_n (x := 18) dX1_init_15 rfl ?_
  refine X_get (v := .ref 19) kF_RX1_11 (show cS_106[18]? = some (.inr (1, [some (some 19), none, none])) by decide +kernel) rfl rfl dX1_init_16 ?_
  refine X_alen 5 (show cS_106[19]? = some (.inl (2, 5, [some 20, some 37])) by decide +kernel) rfl dX1_init_19 ?_
  refine X_icmp_geF 42 dX1_init_20 (by decide) (by decide) ?_
  refine X_aload_n (x := 18) dX1_init_23 rfl ?_
  refine X_get (v := .ref 19) kF_RX1_11 (show cS_106[18]? = some (.inr (1, [some (some 19), none, none])) by decide +kernel) rfl rfl dX1_init_24 ?_
  refine X_iload_n (x := 2) dX1_init_27 rfl ?_
  refine X_newC [some none, some none, some none, some none, some none, some none, some none, some none, none, none] tyX5 54 cS_107 (mOf cL_30) rfl win_X5 tyX5_ok kN_RX1_9 (by decide) (Nat.le_of_ble_eq_true rfl) (Nat.le_of_ble_eq_true rfl) (by decide +kernel) rfl (mOf_n (by decide +kernel)) dX1_init_28 ?_
  refine X_dup dX1_init_31 rfl ?_
  refine X_iC (μ' := mIX5_16_1016) [] [.ref 54, .int 2, .ref 19] cS_139 (mOf cL_40) kL_RX1_15 kI_mIX5_16_1016 rfl rfl dX1_init_32 xI_36 ?_
  refine X_aast [some 20, some 37, some 54] cS_140 (show cS_139[19]? = some (.inl (2, 5, [some 20, some 37])) by decide +kernel) (show cS_139[54]? = some (.inr (3, [some (some 55), some (some 57), some (some 59), some (some 61), some (some 63), some (some 65), some (some 67), some (some 69), none, none])) by decide +kernel) rfl rfl (by decide) xrs_2 rfl dX1_init_35 ?_
  refine X_iinc (x := 2) 1 [.ref 18, .int 3] dX1_init_36 rfl rfl (Nat.le_of_ble_eq_true rfl) (xcat1_of rfl) rfl ?_
  refine X_goto 14 dX1_init_39 (by decide) ?_
  refine X_iload_n (x := 3) dX1_init_14 rfl ?_
  refine X_aload_n (x := 18) dX1_init_15 rfl ?_
  refine X_get (v := .ref 19) kF_RX1_11 (show cS_140[18]? = some (.inr (1, [some (some 19), none, none])) by decide +kernel) rfl rfl dX1_init_16 ?_
  refine X_alen 5 (show cS_140[19]? = some (.inl (2, 5, [some 20, some 37, some 54])) by decide +kernel) rfl dX1_init_19 ?_
  refine X_icmp_geF 42 dX1_init_20 (by decide) (by decide) ?_
  refine X_aload_n (x := 18) dX1_init_23 rfl ?_
  refine X_get (v := .ref 19) kF_RX1_11 (show cS_140[18]? = some (.inr (1, [some (some 19), none, none])) by decide +kernel) rfl rfl dX1_init_24 ?_
  refine X_iload_n (x := 3) dX1_init_27 rfl ?_
  refine X_newC [some none, some none, some none, some none, some none, some none, some none, some none, none, none] tyX5 71 cS_141 (mOf cL_40) rfl win_X5 tyX5_ok kN_RX1_9 (by decide) (Nat.le_of_ble_eq_true rfl) (Nat.le_of_ble_eq_true rfl) (by decide +kernel) rfl (mOf_n (by decide +kernel)) dX1_init_28 ?_
  refine X_dup dX1_init_31 rfl ?_
  refine X_iC (μ' := mIX5_16_1016) [] [.ref 71, .int 3, .ref 19] cS_173 (mOf cL_50) kL_RX1_15 kI_mIX5_16_1016 rfl rfl dX1_init_32 xI_45 ?_
  refine X_aast [some 20, some 37, some 54, some 71] cS_174 (show cS_173[19]? = some (.inl (2, 5, [some 20, some 37, some 54])) by decide +kernel) (show cS_173[71]? = some (.inr (3, [some (some 72), some (some 74), some (some 76), some (some 78), some (some 80), some (some 82), some (some 84), some (some 86), none, none])) by decide +kernel) rfl rfl (by decide) xrs_3 rfl dX1_init_35 ?_
  refine X_iinc (x := 3) 1 [.ref 18, .int 4] dX1_init_36 rfl rfl (Nat.le_of_ble_eq_true rfl) (xcat1_of rfl) rfl ?_
  refine X_goto 14 dX1_init_39 (by decide) ?_
  refine X_iload_n (x := 4) dX1_init_14 rfl ?_
  refine X_aload_n (x := 18) dX1_init_15 rfl ?_
  refine X_get (v := .ref 19) kF_RX1_11 (show cS_174[18]? = some (.inr (1, [some (some 19), none, none])) by decide +kernel) rfl rfl dX1_init_16 ?_
  refine X_alen 5 (show cS_174[19]? = some (.inl (2, 5, [some 20, some 37, some 54, some 71])) by decide +kernel) rfl dX1_init_19 ?_
  refine X_icmp_geF 42 dX1_init_20 (by decide) (by decide) ?_
  refine X_aload_n (x := 18) dX1_init_23 rfl ?_
  refine X_get (v := .ref 19) kF_RX1_11 (show cS_174[18]? = some (.inr (1, [some (some 19), none, none])) by decide +kernel) rfl rfl dX1_init_24 ?_
  refine X_iload_n (x := 4) dX1_init_27 rfl ?_
  refine X_newC [some none, some none, some none, some none, some none, some none, some none, some none, none, none] tyX5 88 cS_175 (mOf cL_50) rfl win_X5 tyX5_ok kN_RX1_9 (by decide) (Nat.le_of_ble_eq_true rfl) (Nat.le_of_ble_eq_true rfl) (by decide +kernel) rfl (mOf_n (by decide +kernel)) dX1_init_28 ?_
  refine X_dup dX1_init_31 rfl ?_
  refine X_iC (μ' := mIX5_16_1016) [] [.ref 88, .int 4, .ref 19] cS_207 (mOf cL_60) kL_RX1_15 kI_mIX5_16_1016 rfl rfl dX1_init_32 xI_54 ?_
  refine X_aast [some 20, some 37, some 54, some 71, some 88] cS_208 (show cS_207[19]? = some (.inl (2, 5, [some 20, some 37, some 54, some 71])) by decide +kernel) (show cS_207[88]? = some (.inr (3, [some (some 89), some (some 91), some (some 93), some (some 95), some (some 97), some (some 99), some (some 101), some (some 103), none, none])) by decide +kernel) rfl rfl (by decide) xrs_4 rfl dX1_init_35 ?_
  refine X_iinc (x := 4) 1 [.ref 18, .int 5] dX1_init_36 rfl rfl (Nat.le_of_ble_eq_true rfl) (xcat1_of rfl) rfl ?_
  refine X_goto 14 dX1_init_39 (by decide) ?_
  refine X_iload_n (x := 5) dX1_init_14 rfl ?_
  refine X_aload_n (x := 18) dX1_init_15 rfl ?_
  refine X_get (v := .ref 19) kF_RX1_11 (show cS_208[18]? = some (.inr (1, [some (some 19), none, none])) by decide +kernel) rfl rfl dX1_init_16 ?_
  refine X_alen 5 (show cS_208[19]? = some (.inl (2, 5, [some 20, some 37, some 54, some 71, some 88])) by decide +kernel) rfl dX1_init_19 ?_
  refine X_icmp_geT 42 dX1_init_20 (by decide) (by decide) ?_
  exact X_return dX1_init_42 rfl (Nat.le_refl _) (Nat.le_refl _) ⟨rfl, rfl, rfl⟩
set_option maxHeartbeats 1000000 in
theorem xI_56 {ξ : xX} : X ξ mIX6_1_56 0 [.ref 107, .int 8, .int 7] [] cS_212 (mOf cL_60) 0 0 (xr none cS_214 (mOf cL_61)) := by
  refine X_aload_n (x := 107) dX6_init_0 rfl ?_
  refine X_obj kO_RX6_1 (Nat.le_of_ble_eq_true rfl) (Nat.le_of_ble_eq_true rfl) dX6_init_1 ?_
  refine X_aload_n (x := 107) dX6_init_4 rfl ?_
  refine X_iconst 0 dX6_init_5 rfl ?_
  refine X_iload_n (x := 8) dX6_init_6 rfl ?_
  refine X_iload_n (x := 7) dX6_init_7 rfl ?_
  refine X_imul dX6_init_8 ?_
  refine X_max kJ_RX6_7 (Nat.le_of_ble_eq_true rfl) (Nat.le_of_ble_eq_true rfl) (Nat.le_of_ble_eq_true rfl) (Nat.le_of_ble_eq_true rfl) dX6_init_9 ?_
  refine X_newaC 0 56 108 cS_213 (mOf cL_60) ⟨rfl, rfl⟩ kA_0 (by decide) (by decide) (Nat.le_of_ble_eq_true rfl) (Nat.le_of_ble_eq_true rfl) (Nat.le_of_ble_eq_true rfl) (by decide +kernel) rfl (mOf_n (by decide +kernel)) dX6_init_12 ?_
  refine X_putFR cS_214 kF_RX6_13 rfl (fun q hq => by cases hq; rfl) (show cS_213[107]? = some (.inr (4, [some none, none, none])) by decide +kernel) rfl (fun _ => rfl) (fun _ => rfl) rfl dX6_init_14 ?_
  refine X_aload_n (x := 107) dX6_init_17 rfl ?_
  refine X_iload_n (x := 7) dX6_init_18 rfl ?_
  refine X_putFIC (mOf cL_61) kF_RX6_19 rfl (fun q hq => by cases hq; rfl) (show cS_214[107]? = some (.inr (4, [some (some 108), none, none])) by decide +kernel) rfl rfl rfl mOf_w dX6_init_19 ?_
  exact X_return dX6_init_22 rfl (Nat.le_refl _) (Nat.le_refl _) ⟨rfl, rfl, rfl⟩
set_option maxHeartbeats 1000000 in
theorem xI_57 {ξ : xX} : X ξ mIX6_1_24 0 [.ref 109, .int 4, .int 6] [] cS_216 (mOf cL_61) 0 0 (xr none cS_218 (mOf cL_62)) := by
  refine X_aload_n (x := 109) dX6_init_0 rfl ?_
  refine X_obj kO_RX6_1 (Nat.le_of_ble_eq_true rfl) (Nat.le_of_ble_eq_true rfl) dX6_init_1 ?_
  refine X_aload_n (x := 109) dX6_init_4 rfl ?_
  refine X_iconst 0 dX6_init_5 rfl ?_
  refine X_iload_n (x := 4) dX6_init_6 rfl ?_
  refine X_iload_n (x := 6) dX6_init_7 rfl ?_
  refine X_imul dX6_init_8 ?_
  refine X_max kJ_RX6_7 (Nat.le_of_ble_eq_true rfl) (Nat.le_of_ble_eq_true rfl) (Nat.le_of_ble_eq_true rfl) (Nat.le_of_ble_eq_true rfl) dX6_init_9 ?_
  refine X_newaC 0 24 110 cS_217 (mOf cL_61) ⟨rfl, rfl⟩ kA_0 (by decide) (by decide) (Nat.le_of_ble_eq_true rfl) (Nat.le_of_ble_eq_true rfl) (Nat.le_of_ble_eq_true rfl) (by decide +kernel) rfl (mOf_n (by decide +kernel)) dX6_init_12 ?_
  refine X_putFR cS_218 kF_RX6_13 rfl (fun q hq => by cases hq; rfl) (show cS_217[109]? = some (.inr (4, [some none, none, none])) by decide +kernel) rfl (fun _ => rfl) (fun _ => rfl) rfl dX6_init_14 ?_
  refine X_aload_n (x := 109) dX6_init_17 rfl ?_
  refine X_iload_n (x := 6) dX6_init_18 rfl ?_
  refine X_putFIC (mOf cL_62) kF_RX6_19 rfl (fun q hq => by cases hq; rfl) (show cS_218[109]? = some (.inr (4, [some (some 110), none, none])) by decide +kernel) rfl rfl rfl mOf_w dX6_init_19 ?_
  exact X_return dX6_init_22 rfl (Nat.le_refl _) (Nat.le_refl _) ⟨rfl, rfl, rfl⟩
set_option maxHeartbeats 1000000 in
theorem xI_58 {ξ : xX} : X ξ mIX6_1_96 0 [.ref 111, .int 16, .int 6] [] cS_220 (mOf cL_62) 0 0 (xr none cS_222 (mOf cL_63)) := by
  refine X_aload_n (x := 111) dX6_init_0 rfl ?_
  refine X_obj kO_RX6_1 (Nat.le_of_ble_eq_true rfl) (Nat.le_of_ble_eq_true rfl) dX6_init_1 ?_
  refine X_aload_n (x := 111) dX6_init_4 rfl ?_
  refine X_iconst 0 dX6_init_5 rfl ?_
  refine X_iload_n (x := 16) dX6_init_6 rfl ?_
  refine X_iload_n (x := 6) dX6_init_7 rfl ?_
  refine X_imul dX6_init_8 ?_
  refine X_max kJ_RX6_7 (Nat.le_of_ble_eq_true rfl) (Nat.le_of_ble_eq_true rfl) (Nat.le_of_ble_eq_true rfl) (Nat.le_of_ble_eq_true rfl) dX6_init_9 ?_
  refine X_newaC 0 96 112 cS_221 (mOf cL_62) ⟨rfl, rfl⟩ kA_0 (by decide) (by decide) (Nat.le_of_ble_eq_true rfl) (Nat.le_of_ble_eq_true rfl) (Nat.le_of_ble_eq_true rfl) (by decide +kernel) rfl (mOf_n (by decide +kernel)) dX6_init_12 ?_
  refine X_putFR cS_222 kF_RX6_13 rfl (fun q hq => by cases hq; rfl) (show cS_221[111]? = some (.inr (4, [some none, none, none])) by decide +kernel) rfl (fun _ => rfl) (fun _ => rfl) rfl dX6_init_14 ?_
  refine X_aload_n (x := 111) dX6_init_17 rfl ?_
  refine X_iload_n (x := 6) dX6_init_18 rfl ?_
  refine X_putFIC (mOf cL_63) kF_RX6_19 rfl (fun q hq => by cases hq; rfl) (show cS_222[111]? = some (.inr (4, [some (some 112), none, none])) by decide +kernel) rfl rfl rfl mOf_w dX6_init_19 ?_
  exact X_return dX6_init_22 rfl (Nat.le_refl _) (Nat.le_refl _) ⟨rfl, rfl, rfl⟩
set_option maxHeartbeats 1000000 in
theorem xI_59 {ξ : xX} : X ξ mIX6_1_256 0 [.ref 113, .int 64, .int 4] [] cS_224 (mOf cL_63) 0 0 (xr none cS_226 (mOf cL_64)) := by
  refine X_aload_n (x := 113) dX6_init_0 rfl ?_
  refine X_obj kO_RX6_1 (Nat.le_of_ble_eq_true rfl) (Nat.le_of_ble_eq_true rfl) dX6_init_1 ?_
  refine X_aload_n (x := 113) dX6_init_4 rfl ?_
  refine X_iconst 0 dX6_init_5 rfl ?_
  refine X_iload_n (x := 64) dX6_init_6 rfl ?_
  refine X_iload_n (x := 4) dX6_init_7 rfl ?_
  refine X_imul dX6_init_8 ?_
  refine X_max kJ_RX6_7 (Nat.le_of_ble_eq_true rfl) (Nat.le_of_ble_eq_true rfl) (Nat.le_of_ble_eq_true rfl) (Nat.le_of_ble_eq_true rfl) dX6_init_9 ?_
  refine X_newaC 0 256 114 cS_225 (mOf cL_63) ⟨rfl, rfl⟩ kA_0 (by decide) (by decide) (Nat.le_of_ble_eq_true rfl) (Nat.le_of_ble_eq_true rfl) (Nat.le_of_ble_eq_true rfl) (by decide +kernel) rfl (mOf_n (by decide +kernel)) dX6_init_12 ?_
  refine X_putFR cS_226 kF_RX6_13 rfl (fun q hq => by cases hq; rfl) (show cS_225[113]? = some (.inr (4, [some none, none, none])) by decide +kernel) rfl (fun _ => rfl) (fun _ => rfl) rfl dX6_init_14 ?_
  refine X_aload_n (x := 113) dX6_init_17 rfl ?_
  refine X_iload_n (x := 4) dX6_init_18 rfl ?_
  refine X_putFIC (mOf cL_64) kF_RX6_19 rfl (fun q hq => by cases hq; rfl) (show cS_226[113]? = some (.inr (4, [some (some 114), none, none])) by decide +kernel) rfl rfl rfl mOf_w dX6_init_19 ?_
  exact X_return dX6_init_22 rfl (Nat.le_refl _) (Nat.le_refl _) ⟨rfl, rfl, rfl⟩
set_option maxHeartbeats 1000000 in
theorem xI_60 {ξ : xX} : X ξ mIX6_1_264 0 [.ref 115, .int 24, .int 11] [] cS_228 (mOf cL_64) 0 0 (xr none cS_230 (mOf cL_65)) := by
  refine X_aload_n (x := 115) dX6_init_0 rfl ?_
  refine X_obj kO_RX6_1 (Nat.le_of_ble_eq_true rfl) (Nat.le_of_ble_eq_true rfl) dX6_init_1 ?_
  refine X_aload_n (x := 115) dX6_init_4 rfl ?_
  refine X_iconst 0 dX6_init_5 rfl ?_
  refine X_iload_n (x := 24) dX6_init_6 rfl ?_
  refine X_iload_n (x := 11) dX6_init_7 rfl ?_
  refine X_imul dX6_init_8 ?_
  refine X_max kJ_RX6_7 (Nat.le_of_ble_eq_true rfl) (Nat.le_of_ble_eq_true rfl) (Nat.le_of_ble_eq_true rfl) (Nat.le_of_ble_eq_true rfl) dX6_init_9 ?_
  refine X_newaC 0 264 116 cS_229 (mOf cL_64) ⟨rfl, rfl⟩ kA_0 (by decide) (by decide) (Nat.le_of_ble_eq_true rfl) (Nat.le_of_ble_eq_true rfl) (Nat.le_of_ble_eq_true rfl) (by decide +kernel) rfl (mOf_n (by decide +kernel)) dX6_init_12 ?_
  refine X_putFR cS_230 kF_RX6_13 rfl (fun q hq => by cases hq; rfl) (show cS_229[115]? = some (.inr (4, [some none, none, none])) by decide +kernel) rfl (fun _ => rfl) (fun _ => rfl) rfl dX6_init_14 ?_
  refine X_aload_n (x := 115) dX6_init_17 rfl ?_
  refine X_iload_n (x := 11) dX6_init_18 rfl ?_
  refine X_putFIC (mOf cL_65) kF_RX6_19 rfl (fun q hq => by cases hq; rfl) (show cS_230[115]? = some (.inr (4, [some (some 116), none, none])) by decide +kernel) rfl rfl rfl mOf_w dX6_init_19 ?_
  exact X_return dX6_init_22 rfl (Nat.le_refl _) (Nat.le_refl _) ⟨rfl, rfl, rfl⟩
set_option maxHeartbeats 1000000 in
theorem xI_61 {ξ : xX} : X ξ mIX6_1_120 0 [.ref 117, .int 24, .int 5] [] cS_232 (mOf cL_65) 0 0 (xr none cS_234 (mOf cL_66)) := by
  refine X_aload_n (x := 117) dX6_init_0 rfl ?_
  refine X_obj kO_RX6_1 (Nat.le_of_ble_eq_true rfl) (Nat.le_of_ble_eq_true rfl) dX6_init_1 ?_
  refine X_aload_n (x := 117) dX6_init_4 rfl ?_
  refine X_iconst 0 dX6_init_5 rfl ?_
  refine X_iload_n (x := 24) dX6_init_6 rfl ?_
  refine X_iload_n (x := 5) dX6_init_7 rfl ?_
  refine X_imul dX6_init_8 ?_
  refine X_max kJ_RX6_7 (Nat.le_of_ble_eq_true rfl) (Nat.le_of_ble_eq_true rfl) (Nat.le_of_ble_eq_true rfl) (Nat.le_of_ble_eq_true rfl) dX6_init_9 ?_
  refine X_newaC 0 120 118 cS_233 (mOf cL_65) ⟨rfl, rfl⟩ kA_0 (by decide) (by decide) (Nat.le_of_ble_eq_true rfl) (Nat.le_of_ble_eq_true rfl) (Nat.le_of_ble_eq_true rfl) (by decide +kernel) rfl (mOf_n (by decide +kernel)) dX6_init_12 ?_
  refine X_putFR cS_234 kF_RX6_13 rfl (fun q hq => by cases hq; rfl) (show cS_233[117]? = some (.inr (4, [some none, none, none])) by decide +kernel) rfl (fun _ => rfl) (fun _ => rfl) rfl dX6_init_14 ?_
  refine X_aload_n (x := 117) dX6_init_17 rfl ?_
  refine X_iload_n (x := 5) dX6_init_18 rfl ?_
  refine X_putFIC (mOf cL_66) kF_RX6_19 rfl (fun q hq => by cases hq; rfl) (show cS_234[117]? = some (.inr (4, [some (some 118), none, none])) by decide +kernel) rfl rfl rfl mOf_w dX6_init_19 ?_
  exact X_return dX6_init_22 rfl (Nat.le_refl _) (Nat.le_refl _) ⟨rfl, rfl, rfl⟩
set_option maxHeartbeats 1000000 in
theorem xI_62 {ξ : xX} : X ξ mIX6_1_160 0 [.ref 119, .int 16, .int 10] [] cS_236 (mOf cL_66) 0 0 (xr none cS_238 (mOf cL_67)) := by
  refine X_aload_n (x := 119) dX6_init_0 rfl ?_
  refine X_obj kO_RX6_1 (Nat.le_of_ble_eq_true rfl) (Nat.le_of_ble_eq_true rfl) dX6_init_1 ?_
  refine X_aload_n (x := 119) dX6_init_4 rfl ?_
  refine X_iconst 0 dX6_init_5 rfl ?_
  refine X_iload_n (x := 16) dX6_init_6 rfl ?_
  refine X_iload_n (x := 10) dX6_init_7 rfl ?_
  refine X_imul dX6_init_8 ?_
  refine X_max kJ_RX6_7 (Nat.le_of_ble_eq_true rfl) (Nat.le_of_ble_eq_true rfl) (Nat.le_of_ble_eq_true rfl) (Nat.le_of_ble_eq_true rfl) dX6_init_9 ?_
  refine X_newaC 0 160 120 cS_237 (mOf cL_66) ⟨rfl, rfl⟩ kA_0 (by decide) (by decide) (Nat.le_of_ble_eq_true rfl) (Nat.le_of_ble_eq_true rfl) (Nat.le_of_ble_eq_true rfl) (by decide +kernel) rfl (mOf_n (by decide +kernel)) dX6_init_12 ?_
  refine X_putFR cS_238 kF_RX6_13 rfl (fun q hq => by cases hq; rfl) (show cS_237[119]? = some (.inr (4, [some none, none, none])) by decide +kernel) rfl (fun _ => rfl) (fun _ => rfl) rfl dX6_init_14 ?_
  refine X_aload_n (x := 119) dX6_init_17 rfl ?_
  refine X_iload_n (x := 10) dX6_init_18 rfl ?_
  refine X_putFIC (mOf cL_67) kF_RX6_19 rfl (fun q hq => by cases hq; rfl) (show cS_238[119]? = some (.inr (4, [some (some 120), none, none])) by decide +kernel) rfl rfl rfl mOf_w dX6_init_19 ?_
  exact X_return dX6_init_22 rfl (Nat.le_refl _) (Nat.le_refl _) ⟨rfl, rfl, rfl⟩
set_option maxHeartbeats 1000000 in
theorem xI_63 {ξ : xX} : X ξ mIX6_1_16 0 [.ref 121, .int 8, .int 2] [] cS_240 (mOf cL_67) 0 0 (xr none cS_242 (mOf cL_68)) := by
  refine X_aload_n (x := 121) dX6_init_0 rfl ?_
  refine X_obj kO_RX6_1 (Nat.le_of_ble_eq_true rfl) (Nat.le_of_ble_eq_true rfl) dX6_init_1 ?_
  refine X_aload_n (x := 121) dX6_init_4 rfl ?_
  refine X_iconst 0 dX6_init_5 rfl ?_
  refine X_iload_n (x := 8) dX6_init_6 rfl ?_
  refine X_iload_n (x := 2) dX6_init_7 rfl ?_
  refine X_imul dX6_init_8 ?_
  refine X_max kJ_RX6_7 (Nat.le_of_ble_eq_true rfl) (Nat.le_of_ble_eq_true rfl) (Nat.le_of_ble_eq_true rfl) (Nat.le_of_ble_eq_true rfl) dX6_init_9 ?_
  refine X_newaC 0 16 122 cS_241 (mOf cL_67) ⟨rfl, rfl⟩ kA_0 (by decide) (by decide) (Nat.le_of_ble_eq_true rfl) (Nat.le_of_ble_eq_true rfl) (Nat.le_of_ble_eq_true rfl) (by decide +kernel) rfl (mOf_n (by decide +kernel)) dX6_init_12 ?_
  refine X_putFR cS_242 kF_RX6_13 rfl (fun q hq => by cases hq; rfl) (show cS_241[121]? = some (.inr (4, [some none, none, none])) by decide +kernel) rfl (fun _ => rfl) (fun _ => rfl) rfl dX6_init_14 ?_
  refine X_aload_n (x := 121) dX6_init_17 rfl ?_
  refine X_iload_n (x := 2) dX6_init_18 rfl ?_
  refine X_putFIC (mOf cL_68) kF_RX6_19 rfl (fun q hq => by cases hq; rfl) (show cS_242[121]? = some (.inr (4, [some (some 122), none, none])) by decide +kernel) rfl rfl rfl mOf_w dX6_init_19 ?_
  exact X_return dX6_init_22 rfl (Nat.le_refl _) (Nat.le_refl _) ⟨rfl, rfl, rfl⟩
set_option maxHeartbeats 1000000 in
theorem xI_64 {ξ : xX} : X ξ mIX5_16_1016 0 [.ref 106] [] cS_211 (mOf cL_60) 0 0 (xr none cS_243 (mOf cL_70)) := by
  refine X_aload_n (x := 106) dX5_init_0 rfl ?_
  refine X_obj kO_RX5_3 (Nat.le_of_ble_eq_true rfl) (Nat.le_of_ble_eq_true rfl) dX5_init_1 ?_
  refine X_aload_n (x := 106) dX5_init_4 rfl ?_
  refine X_newC [some none, none, none] tyX6 107 cS_212 (mOf cL_60) rfl win_X6 tyX6_ok kN_RX5_9 (by decide) (Nat.le_of_ble_eq_true rfl) (Nat.le_of_ble_eq_true rfl) (by decide +kernel) rfl (mOf_n (by decide +kernel)) dX5_init_5 ?_
  refine X_dup dX5_init_8 rfl ?_
  refine X_bipush 8 dX5_init_9 rfl ?_
  refine X_bipush 7 dX5_init_11 rfl ?_
  refine X_iC (μ' := mIX6_1_56) [.int 8, .int 7] [.ref 107, .ref 106] cS_214 (mOf cL_61) kL_RX5_11 kI_mIX6_1_56 rfl rfl dX5_init_13 xI_56 ?_
  refine X_putFR cS_215 kF_RX5_14 rfl (fun q hq => by cases hq; rfl) (show cS_214[106]? = some (.inr (3, [some none, some none, some none, some none, some none, some none, some none, some none, none, none])) by decide +kernel) rfl (fun _ => rfl) (fun _ => rfl) rfl dX5_init_16 ?_
  refine X_aload_n (x := 106) dX5_init_19 rfl ?_
  refine X_newC [some none, none, none] tyX6 109 cS_216 (mOf cL_61) rfl win_X6 tyX6_ok kN_RX5_9 (by decide) (Nat.le_of_ble_eq_true rfl) (Nat.le_of_ble_eq_true rfl) (by decide +kernel) rfl (mOf_n (by decide +kernel)) dX5_init_20 ?_
  refine X_dup dX5_init_23 rfl ?_
  refine X_iconst 4 dX5_init_24 rfl ?_
  refine X_bipush 6 dX5_init_25 rfl ?_
  refine X_iC (μ' := mIX6_1_24) [.int 4, .int 6] [.ref 109, .ref 106] cS_218 (mOf cL_62) kL_RX5_11 kI_mIX6_1_24 rfl rfl dX5_init_27 xI_57 ?_
  refine X_putFR cS_219 kF_RX5_20 rfl (fun q hq => by cases hq; rfl) (show cS_218[106]? = some (.inr (3, [some (some 107), some none, some none, some none, some none, some none, some none, some none, none, none])) by decide +kernel) rfl (fun _ => rfl) (fun _ => rfl) rfl dX5_init_30 ?_
  refine X_aload_n (x := 106) dX5_init_33 rfl ?_
  refine X_newC [some none, none, none] tyX6 111 cS_220 (mOf cL_62) rfl win_X6 tyX6_ok kN_RX5_9 (by decide) (Nat.le_of_ble_eq_true rfl) (Nat.le_of_ble_eq_true rfl) (by decide +kernel) rfl (mOf_n (by decide +kernel)) dX5_init_34 ?_
  refine X_dup dX5_init_37 rfl ?_
  refine X_bipush 16 dX5_init_38 rfl ?_
  refine X_bipush 6 dX5_init_40 rfl ?_
  refine X_iC (μ' := mIX6_1_96) [.int 16, .int 6] [.ref 111, .ref 106] cS_222 (mOf cL_63) kL_RX5_11 kI_mIX6_1_96 rfl rfl dX5_init_42 xI_58 ?_
  refine X_putFR cS_223 kF_RX5_23 rfl (fun q hq => by cases hq; rfl) (show cS_222[106]? = some (.inr (3, [some (some 107), some (some 109), some none, some none, some none, some none, some none, some none, none, none])) by decide +kernel) rfl (fun _ => rfl) (fun _ => rfl) rfl dX5_init_45 ?_
  refine X_aload_n (x := 106) dX5_init_48 rfl ?_
  refine X_newC [some none, none, none] tyX6 113 cS_224 (mOf cL_63) rfl win_X6 tyX6_ok kN_RX5_9 (by decide) (Nat.le_of_ble_eq_true rfl) (Nat.le_of_ble_eq_true rfl) (by decide +kernel) rfl (mOf_n (by decide +kernel)) dX5_init_49 ?_
  refine X_dup dX5_init_52 rfl ?_
  refine X_bipush 64 dX5_init_53 rfl ?_
  refine X_iconst 4 dX5_init_55 rfl ?_
  refine X_iC (μ' := mIX6_1_256) [.int 64, .int 4] [.ref 113, .ref 106] cS_226 (mOf cL_64) kL_RX5_11 kI_mIX6_1_256 rfl rfl dX5_init_56 xI_59 ?_
  refine X_putFR cS_227 kF_RX5_26 rfl (fun q hq => by cases hq; rfl) (show cS_226[106]? = some (.inr (3, [some (some 107), some (some 109), some (some 111), some none, some none, some none, some none, some none, none, none])) by decide +kernel) rfl (fun _ => rfl) (fun _ => rfl) rfl dX5_init_59 ?_
  refine X_aload_n (x := 106) dX5_init_62 rfl ?_
  refine X_newC [some none, none, none] tyX6 115 cS_228 (mOf cL_64) rfl win_X6 tyX6_ok kN_RX5_9 (by decide) (Nat.le_of_ble_eq_true rfl) (Nat.le_of_ble_eq_true rfl) (by decide +kernel) rfl (mOf_n (by decide +kernel)) dX5_init_63 ?_
  refine X_dup dX5_init_66 rfl ?_
  refine X_bipush 24 dX5_init_67 rfl ?_
  refine X_bipush 11 dX5_init_69 rfl ?_
  refine X_iC (μ' := mIX6_1_264) [.int 24, .int 11] [.ref 115, .ref 106] cS_230 (mOf cL_65) kL_RX5_11 kI_mIX6_1_264 rfl rfl dX5_init_71 xI_60 ?_
  refine X_putFR cS_231 kF_RX5_29 rfl (fun q hq => by cases hq; rfl) (show cS_230[106]? = some (.inr (3, [some (some 107), some (some 109), some (some 111), some (some 113), some none, some none, some none, some none, none, none])) by decide +kernel) rfl (fun _ => rfl) (fun _ => rfl) rfl dX5_init_74 ?_
  refine X_aload_n (x := 106) dX5_init_77 rfl ?_
  refine X_newC [some none, none, none] tyX6 117 cS_232 (mOf cL_65) rfl win_X6 tyX6_ok kN_RX5_9 (by decide) (Nat.le_of_ble_eq_true rfl) (Nat.le_of_ble_eq_true rfl) (by decide +kernel) rfl (mOf_n (by decide +kernel)) dX5_init_78 ?_
  refine X_dup dX5_init_81 rfl ?_
  refine X_bipush 24 dX5_init_82 rfl ?_
  refine X_iconst 5 dX5_init_84 rfl ?_
  refine X_iC (μ' := mIX6_1_120) [.int 24, .int 5] [.ref 117, .ref 106] cS_234 (mOf cL_66) kL_RX5_11 kI_mIX6_1_120 rfl rfl dX5_init_85 xI_61 ?_
  refine X_putFR cS_235 kF_RX5_32 rfl (fun q hq => by cases hq; rfl) (show cS_234[106]? = some (.inr (3, [some (some 107), some (some 109), some (some 111), some (some 113), some (some 115), some none, some none, some none, none, none])) by decide +kernel) rfl (fun _ => rfl) (fun _ => rfl) rfl dX5_init_88 ?_
  refine X_aload_n (x := 106) dX5_init_91 rfl ?_
  refine X_newC [some none, none, none] tyX6 119 cS_236 (mOf cL_66) rfl win_X6 tyX6_ok kN_RX5_9 (by decide) (Nat.le_of_ble_eq_true rfl) (Nat.le_of_ble_eq_true rfl) (by decide +kernel) rfl (mOf_n (by decide +kernel)) dX5_init_92 ?_
  refine X_dup dX5_init_95 rfl ?_
  refine X_bipush 16 dX5_init_96 rfl ?_
  refine X_bipush 10 dX5_init_98 rfl ?_
  refine X_iC (μ' := mIX6_1_160) [.int 16, .int 10] [.ref 119, .ref 106] cS_238 (mOf cL_67) kL_RX5_11 kI_mIX6_1_160 rfl rfl dX5_init_100 xI_62 ?_
  refine X_putFR cS_239 kF_RX5_35 rfl (fun q hq => by cases hq; rfl) (show cS_238[106]? = some (.inr (3, [some (some 107), some (some 109), some (some 111), some (some 113), some (some 115), some (some 117), some none, some none, none, none])) by decide +kernel) rfl (fun _ => rfl) (fun _ => rfl) rfl dX5_init_103 ?_
  refine X_aload_n (x := 106) dX5_init_106 rfl ?_
  refine X_newC [some none, none, none] tyX6 121 cS_240 (mOf cL_67) rfl win_X6 tyX6_ok kN_RX5_9 (by decide) (Nat.le_of_ble_eq_true rfl) (Nat.le_of_ble_eq_true rfl) (by decide +kernel) rfl (mOf_n (by decide +kernel)) dX5_init_107 ?_
  refine X_dup dX5_init_110 rfl ?_
  refine X_bipush 8 dX5_init_111 rfl ?_
  refine X_iconst 2 dX5_init_113 rfl ?_
  refine X_iC (μ' := mIX6_1_16) [.int 8, .int 2] [.ref 121, .ref 106] cS_242 (mOf cL_68) kL_RX5_11 kI_mIX6_1_16 rfl rfl dX5_init_114 xI_63 ?_
  refine X_putFR cS_243 kF_RX5_38 rfl (fun q hq => by cases hq; rfl) (show cS_242[106]? = some (.inr (3, [some (some 107), some (some 109), some (some 111), some (some 113), some (some 115), some (some 117), some (some 119), some none, none, none])) by decide +kernel) rfl (fun _ => rfl) (fun _ => rfl) rfl dX5_init_117 ?_
  refine X_aload_n (x := 106) dX5_init_120 rfl ?_
  refine X_get (v := .ref 113) kF_RX5_26 (show cS_243[106]? = some (.inr (3, [some (some 107), some (some 109), some (some 111), some (some 113), some (some 115), some (some 117), some (some 119), some (some 121), none, none])) by decide +kernel) rfl rfl dX5_init_121 ?_
  refine X_bipush 64 dX5_init_124 rfl ?_
  refine X_putIC (mOf cL_69) kF_RX5_41 (show cS_243[113]? = some (.inr (4, [some (some 114), none, none])) by decide +kernel) rfl rfl rfl mOf_w dX5_init_126 ?_
  refine X_aload_n (x := 106) dX5_init_129 rfl ?_
  refine X_get (v := .ref 121) kF_RX5_38 (show cS_243[106]? = some (.inr (3, [some (some 107), some (some 109), some (some 111), some (some 113), some (some 115), some (some 117), some (some 119), some (some 121), none, none])) by decide +kernel) rfl rfl dX5_init_130 ?_
  refine X_bipush 8 dX5_init_133 rfl ?_
  refine X_putIC (mOf cL_70) kF_RX5_41 (show cS_243[121]? = some (.inr (4, [some (some 122), none, none])) by decide +kernel) rfl rfl rfl mOf_w dX5_init_135 ?_
  exact X_return dX5_init_138 rfl (Nat.le_refl _) (Nat.le_refl _) ⟨rfl, rfl, rfl⟩
set_option maxHeartbeats 1000000 in
theorem xI_65 {ξ : xX} : X ξ mIX4_17_1026 0 [.ref 105] [] cS_210 (mOf cL_60) 0 0 (xr none cS_244 (mOf cL_70)) := by
  refine X_aload_n (x := 105) dX4_init_0 rfl ?_
  refine X_obj kO_RX4_1 (Nat.le_of_ble_eq_true rfl) (Nat.le_of_ble_eq_true rfl) dX4_init_1 ?_
  refine X_aload_n (x := 105) dX4_init_4 rfl ?_
  refine X_newC [some none, some none, some none, some none, some none, some none, some none, some none, none, none] tyX5 106 cS_211 (mOf cL_60) rfl win_X5 tyX5_ok kN_RX4_7 (by decide) (Nat.le_of_ble_eq_true rfl) (Nat.le_of_ble_eq_true rfl) (by decide +kernel) rfl (mOf_n (by decide +kernel)) dX4_init_5 ?_
  refine X_dup dX4_init_8 rfl ?_
  refine X_iC (μ' := mIX5_16_1016) [] [.ref 106, .ref 105] cS_243 (mOf cL_70) kL_RX4_9 kI_mIX5_16_1016 rfl rfl dX4_init_9 xI_64 ?_
  refine X_putFR cS_244 kF_RX4_10 rfl (fun q hq => by cases hq; rfl) (show cS_243[105]? = some (.inr (2, [some none, none])) by decide +kernel) rfl (fun _ => rfl) (fun _ => rfl) rfl dX4_init_12 ?_
  exact X_return dX4_init_15 rfl (Nat.le_refl _) (Nat.le_refl _) ⟨rfl, rfl, rfl⟩
set_option maxHeartbeats 1000000 in
theorem xI_66 {ξ : xX} : X ξ mIX6_1_56 0 [.ref 125, .int 8, .int 7] [] cS_248 (mOf cL_70) 0 0 (xr none cS_250 (mOf cL_71)) := by
  refine X_aload_n (x := 125) dX6_init_0 rfl ?_
  refine X_obj kO_RX6_1 (Nat.le_of_ble_eq_true rfl) (Nat.le_of_ble_eq_true rfl) dX6_init_1 ?_
  refine X_aload_n (x := 125) dX6_init_4 rfl ?_
  refine X_iconst 0 dX6_init_5 rfl ?_
  refine X_iload_n (x := 8) dX6_init_6 rfl ?_
  refine X_iload_n (x := 7) dX6_init_7 rfl ?_
  refine X_imul dX6_init_8 ?_
  refine X_max kJ_RX6_7 (Nat.le_of_ble_eq_true rfl) (Nat.le_of_ble_eq_true rfl) (Nat.le_of_ble_eq_true rfl) (Nat.le_of_ble_eq_true rfl) dX6_init_9 ?_
  refine X_newaC 0 56 126 cS_249 (mOf cL_70) ⟨rfl, rfl⟩ kA_0 (by decide) (by decide) (Nat.le_of_ble_eq_true rfl) (Nat.le_of_ble_eq_true rfl) (Nat.le_of_ble_eq_true rfl) (by decide +kernel) rfl (mOf_n (by decide +kernel)) dX6_init_12 ?_
  refine X_putFR cS_250 kF_RX6_13 rfl (fun q hq => by cases hq; rfl) (show cS_249[125]? = some (.inr (4, [some none, none, none])) by decide +kernel) rfl (fun _ => rfl) (fun _ => rfl) rfl dX6_init_14 ?_
  refine X_aload_n (x := 125) dX6_init_17 rfl ?_
  refine X_iload_n (x := 7) dX6_init_18 rfl ?_
  refine X_putFIC (mOf cL_71) kF_RX6_19 rfl (fun q hq => by cases hq; rfl) (show cS_250[125]? = some (.inr (4, [some (some 126), none, none])) by decide +kernel) rfl rfl rfl mOf_w dX6_init_19 ?_
  exact X_return dX6_init_22 rfl (Nat.le_refl _) (Nat.le_refl _) ⟨rfl, rfl, rfl⟩
set_option maxHeartbeats 1000000 in
theorem xI_67 {ξ : xX} : X ξ mIX6_1_24 0 [.ref 127, .int 4, .int 6] [] cS_252 (mOf cL_71) 0 0 (xr none cS_254 (mOf cL_72)) := by
  refine X_aload_n (x := 127) dX6_init_0 rfl ?_
  refine X_obj kO_RX6_1 (Nat.le_of_ble_eq_true rfl) (Nat.le_of_ble_eq_true rfl) dX6_init_1 ?_
  refine X_aload_n (x := 127) dX6_init_4 rfl ?_
  refine X_iconst 0 dX6_init_5 rfl ?_
  refine X_iload_n (x := 4) dX6_init_6 rfl ?_
  refine X_iload_n (x := 6) dX6_init_7 rfl ?_
  refine X_imul dX6_init_8 ?_
  refine X_max kJ_RX6_7 (Nat.le_of_ble_eq_true rfl) (Nat.le_of_ble_eq_true rfl) (Nat.le_of_ble_eq_true rfl) (Nat.le_of_ble_eq_true rfl) dX6_init_9 ?_
  refine X_newaC 0 24 128 cS_253 (mOf cL_71) ⟨rfl, rfl⟩ kA_0 (by decide) (by decide) (Nat.le_of_ble_eq_true rfl) (Nat.le_of_ble_eq_true rfl) (Nat.le_of_ble_eq_true rfl) (by decide +kernel) rfl (mOf_n (by decide +kernel)) dX6_init_12 ?_
  refine X_putFR cS_254 kF_RX6_13 rfl (fun q hq => by cases hq; rfl) (show cS_253[127]? = some (.inr (4, [some none, none, none])) by decide +kernel) rfl (fun _ => rfl) (fun _ => rfl) rfl dX6_init_14 ?_
  refine X_aload_n (x := 127) dX6_init_17 rfl ?_
  refine X_iload_n (x := 6) dX6_init_18 rfl ?_
  refine X_putFIC (mOf cL_72) kF_RX6_19 rfl (fun q hq => by cases hq; rfl) (show cS_254[127]? = some (.inr (4, [some (some 128), none, none])) by decide +kernel) rfl rfl rfl mOf_w dX6_init_19 ?_
  exact X_return dX6_init_22 rfl (Nat.le_refl _) (Nat.le_refl _) ⟨rfl, rfl, rfl⟩
set_option maxHeartbeats 1000000 in
theorem xI_68 {ξ : xX} : X ξ mIX6_1_96 0 [.ref 129, .int 16, .int 6] [] cS_256 (mOf cL_72) 0 0 (xr none cS_258 (mOf cL_73)) := by
  refine X_aload_n (x := 129) dX6_init_0 rfl ?_
  refine X_obj kO_RX6_1 (Nat.le_of_ble_eq_true rfl) (Nat.le_of_ble_eq_true rfl) dX6_init_1 ?_
  refine X_aload_n (x := 129) dX6_init_4 rfl ?_
  refine X_iconst 0 dX6_init_5 rfl ?_
  refine X_iload_n (x := 16) dX6_init_6 rfl ?_
  refine X_iload_n (x := 6) dX6_init_7 rfl ?_
  refine X_imul dX6_init_8 ?_
  refine X_max kJ_RX6_7 (Nat.le_of_ble_eq_true rfl) (Nat.le_of_ble_eq_true rfl) (Nat.le_of_ble_eq_true rfl) (Nat.le_of_ble_eq_true rfl) dX6_init_9 ?_
  refine X_newaC 0 96 130 cS_257 (mOf cL_72) ⟨rfl, rfl⟩ kA_0 (by decide) (by decide) (Nat.le_of_ble_eq_true rfl) (Nat.le_of_ble_eq_true rfl) (Nat.le_of_ble_eq_true rfl) (by decide +kernel) rfl (mOf_n (by decide +kernel)) dX6_init_12 ?_
  refine X_putFR cS_258 kF_RX6_13 rfl (fun q hq => by cases hq; rfl) (show cS_257[129]? = some (.inr (4, [some none, none, none])) by decide +kernel) rfl (fun _ => rfl) (fun _ => rfl) rfl dX6_init_14 ?_
  refine X_aload_n (x := 129) dX6_init_17 rfl ?_
  refine X_iload_n (x := 6) dX6_init_18 rfl ?_
  refine X_putFIC (mOf cL_73) kF_RX6_19 rfl (fun q hq => by cases hq; rfl) (show cS_258[129]? = some (.inr (4, [some (some 130), none, none])) by decide +kernel) rfl rfl rfl mOf_w dX6_init_19 ?_
  exact X_return dX6_init_22 rfl (Nat.le_refl _) (Nat.le_refl _) ⟨rfl, rfl, rfl⟩
set_option maxHeartbeats 1000000 in
theorem xI_69 {ξ : xX} : X ξ mIX6_1_256 0 [.ref 131, .int 64, .int 4] [] cS_260 (mOf cL_73) 0 0 (xr none cS_262 (mOf cL_74)) := by
  refine X_aload_n (x := 131) dX6_init_0 rfl ?_
  refine X_obj kO_RX6_1 (Nat.le_of_ble_eq_true rfl) (Nat.le_of_ble_eq_true rfl) dX6_init_1 ?_
  refine X_aload_n (x := 131) dX6_init_4 rfl ?_
  refine X_iconst 0 dX6_init_5 rfl ?_
  refine X_iload_n (x := 64) dX6_init_6 rfl ?_
  refine X_iload_n (x := 4) dX6_init_7 rfl ?_
  refine X_imul dX6_init_8 ?_
  refine X_max kJ_RX6_7 (Nat.le_of_ble_eq_true rfl) (Nat.le_of_ble_eq_true rfl) (Nat.le_of_ble_eq_true rfl) (Nat.le_of_ble_eq_true rfl) dX6_init_9 ?_
  refine X_newaC 0 256 132 cS_261 (mOf cL_73) ⟨rfl, rfl⟩ kA_0 (by decide) (by decide) (Nat.le_of_ble_eq_true rfl) (Nat.le_of_ble_eq_true rfl) (Nat.le_of_ble_eq_true rfl) (by decide +kernel) rfl (mOf_n (by decide +kernel)) dX6_init_12 ?_
  refine X_putFR cS_262 kF_RX6_13 rfl (fun q hq => by cases hq; rfl) (show cS_261[131]? = some (.inr (4, [some none, none, none])) by decide +kernel) rfl (fun _ => rfl) (fun _ => rfl) rfl dX6_init_14 ?_
  refine X_aload_n (x := 131) dX6_init_17 rfl ?_
  refine X_iload_n (x := 4) dX6_init_18 rfl ?_
  refine X_putFIC (mOf cL_74) kF_RX6_19 rfl (fun q hq => by cases hq; rfl) (show cS_262[131]? = some (.inr (4, [some (some 132), none, none])) by decide +kernel) rfl rfl rfl mOf_w dX6_init_19 ?_
  exact X_return dX6_init_22 rfl (Nat.le_refl _) (Nat.le_refl _) ⟨rfl, rfl, rfl⟩
set_option maxHeartbeats 1000000 in
theorem xI_70 {ξ : xX} : X ξ mIX6_1_264 0 [.ref 133, .int 24, .int 11] [] cS_264 (mOf cL_74) 0 0 (xr none cS_266 (mOf cL_75)) := by
  refine X_aload_n (x := 133) dX6_init_0 rfl ?_
  refine X_obj kO_RX6_1 (Nat.le_of_ble_eq_true rfl) (Nat.le_of_ble_eq_true rfl) dX6_init_1 ?_
  refine X_aload_n (x := 133) dX6_init_4 rfl ?_
  refine X_iconst 0 dX6_init_5 rfl ?_
  refine X_iload_n (x := 24) dX6_init_6 rfl ?_
  refine X_iload_n (x := 11) dX6_init_7 rfl ?_
  refine X_imul dX6_init_8 ?_
  refine X_max kJ_RX6_7 (Nat.le_of_ble_eq_true rfl) (Nat.le_of_ble_eq_true rfl) (Nat.le_of_ble_eq_true rfl) (Nat.le_of_ble_eq_true rfl) dX6_init_9 ?_
  refine X_newaC 0 264 134 cS_265 (mOf cL_74) ⟨rfl, rfl⟩ kA_0 (by decide) (by decide) (Nat.le_of_ble_eq_true rfl) (Nat.le_of_ble_eq_true rfl) (Nat.le_of_ble_eq_true rfl) (by decide +kernel) rfl (mOf_n (by decide +kernel)) dX6_init_12 ?_
  refine X_putFR cS_266 kF_RX6_13 rfl (fun q hq => by cases hq; rfl) (show cS_265[133]? = some (.inr (4, [some none, none, none])) by decide +kernel) rfl (fun _ => rfl) (fun _ => rfl) rfl dX6_init_14 ?_
  refine X_aload_n (x := 133) dX6_init_17 rfl ?_
  refine X_iload_n (x := 11) dX6_init_18 rfl ?_
  refine X_putFIC (mOf cL_75) kF_RX6_19 rfl (fun q hq => by cases hq; rfl) (show cS_266[133]? = some (.inr (4, [some (some 134), none, none])) by decide +kernel) rfl rfl rfl mOf_w dX6_init_19 ?_
  exact X_return dX6_init_22 rfl (Nat.le_refl _) (Nat.le_refl _) ⟨rfl, rfl, rfl⟩
set_option maxHeartbeats 1000000 in
theorem xI_71 {ξ : xX} : X ξ mIX6_1_120 0 [.ref 135, .int 24, .int 5] [] cS_268 (mOf cL_75) 0 0 (xr none cS_270 (mOf cL_76)) := by
  refine X_aload_n (x := 135) dX6_init_0 rfl ?_
  refine X_obj kO_RX6_1 (Nat.le_of_ble_eq_true rfl) (Nat.le_of_ble_eq_true rfl) dX6_init_1 ?_
  refine X_aload_n (x := 135) dX6_init_4 rfl ?_
  refine X_iconst 0 dX6_init_5 rfl ?_
  refine X_iload_n (x := 24) dX6_init_6 rfl ?_
  refine X_iload_n (x := 5) dX6_init_7 rfl ?_
  refine X_imul dX6_init_8 ?_
  refine X_max kJ_RX6_7 (Nat.le_of_ble_eq_true rfl) (Nat.le_of_ble_eq_true rfl) (Nat.le_of_ble_eq_true rfl) (Nat.le_of_ble_eq_true rfl) dX6_init_9 ?_
  refine X_newaC 0 120 136 cS_269 (mOf cL_75) ⟨rfl, rfl⟩ kA_0 (by decide) (by decide) (Nat.le_of_ble_eq_true rfl) (Nat.le_of_ble_eq_true rfl) (Nat.le_of_ble_eq_true rfl) (by decide +kernel) rfl (mOf_n (by decide +kernel)) dX6_init_12 ?_
  refine X_putFR cS_270 kF_RX6_13 rfl (fun q hq => by cases hq; rfl) (show cS_269[135]? = some (.inr (4, [some none, none, none])) by decide +kernel) rfl (fun _ => rfl) (fun _ => rfl) rfl dX6_init_14 ?_
  refine X_aload_n (x := 135) dX6_init_17 rfl ?_
  refine X_iload_n (x := 5) dX6_init_18 rfl ?_
  refine X_putFIC (mOf cL_76) kF_RX6_19 rfl (fun q hq => by cases hq; rfl) (show cS_270[135]? = some (.inr (4, [some (some 136), none, none])) by decide +kernel) rfl rfl rfl mOf_w dX6_init_19 ?_
  exact X_return dX6_init_22 rfl (Nat.le_refl _) (Nat.le_refl _) ⟨rfl, rfl, rfl⟩
set_option maxHeartbeats 1000000 in
theorem xI_72 {ξ : xX} : X ξ mIX6_1_160 0 [.ref 137, .int 16, .int 10] [] cS_272 (mOf cL_76) 0 0 (xr none cS_274 (mOf cL_77)) := by
  refine X_aload_n (x := 137) dX6_init_0 rfl ?_
  refine X_obj kO_RX6_1 (Nat.le_of_ble_eq_true rfl) (Nat.le_of_ble_eq_true rfl) dX6_init_1 ?_
  refine X_aload_n (x := 137) dX6_init_4 rfl ?_
  refine X_iconst 0 dX6_init_5 rfl ?_
  refine X_iload_n (x := 16) dX6_init_6 rfl ?_
  refine X_iload_n (x := 10) dX6_init_7 rfl ?_
  refine X_imul dX6_init_8 ?_
  refine X_max kJ_RX6_7 (Nat.le_of_ble_eq_true rfl) (Nat.le_of_ble_eq_true rfl) (Nat.le_of_ble_eq_true rfl) (Nat.le_of_ble_eq_true rfl) dX6_init_9 ?_
  refine X_newaC 0 160 138 cS_273 (mOf cL_76) ⟨rfl, rfl⟩ kA_0 (by decide) (by decide) (Nat.le_of_ble_eq_true rfl) (Nat.le_of_ble_eq_true rfl) (Nat.le_of_ble_eq_true rfl) (by decide +kernel) rfl (mOf_n (by decide +kernel)) dX6_init_12 ?_
  refine X_putFR cS_274 kF_RX6_13 rfl (fun q hq => by cases hq; rfl) (show cS_273[137]? = some (.inr (4, [some none, none, none])) by decide +kernel) rfl (fun _ => rfl) (fun _ => rfl) rfl dX6_init_14 ?_
  refine X_aload_n (x := 137) dX6_init_17 rfl ?_
  refine X_iload_n (x := 10) dX6_init_18 rfl ?_
  refine X_putFIC (mOf cL_77) kF_RX6_19 rfl (fun q hq => by cases hq; rfl) (show cS_274[137]? = some (.inr (4, [some (some 138), none, none])) by decide +kernel) rfl rfl rfl mOf_w dX6_init_19 ?_
  exact X_return dX6_init_22 rfl (Nat.le_refl _) (Nat.le_refl _) ⟨rfl, rfl, rfl⟩
set_option maxHeartbeats 1000000 in
theorem xI_73 {ξ : xX} : X ξ mIX6_1_16 0 [.ref 139, .int 8, .int 2] [] cS_276 (mOf cL_77) 0 0 (xr none cS_278 (mOf cL_78)) := by
  refine X_aload_n (x := 139) dX6_init_0 rfl ?_
  refine X_obj kO_RX6_1 (Nat.le_of_ble_eq_true rfl) (Nat.le_of_ble_eq_true rfl) dX6_init_1 ?_
  refine X_aload_n (x := 139) dX6_init_4 rfl ?_
  refine X_iconst 0 dX6_init_5 rfl ?_
  refine X_iload_n (x := 8) dX6_init_6 rfl ?_
  refine X_iload_n (x := 2) dX6_init_7 rfl ?_
  refine X_imul dX6_init_8 ?_
  refine X_max kJ_RX6_7 (Nat.le_of_ble_eq_true rfl) (Nat.le_of_ble_eq_true rfl) (Nat.le_of_ble_eq_true rfl) (Nat.le_of_ble_eq_true rfl) dX6_init_9 ?_
  refine X_newaC 0 16 140 cS_277 (mOf cL_77) ⟨rfl, rfl⟩ kA_0 (by decide) (by decide) (Nat.le_of_ble_eq_true rfl) (Nat.le_of_ble_eq_true rfl) (Nat.le_of_ble_eq_true rfl) (by decide +kernel) rfl (mOf_n (by decide +kernel)) dX6_init_12 ?_
  refine X_putFR cS_278 kF_RX6_13 rfl (fun q hq => by cases hq; rfl) (show cS_277[139]? = some (.inr (4, [some none, none, none])) by decide +kernel) rfl (fun _ => rfl) (fun _ => rfl) rfl dX6_init_14 ?_
  refine X_aload_n (x := 139) dX6_init_17 rfl ?_
  refine X_iload_n (x := 2) dX6_init_18 rfl ?_
  refine X_putFIC (mOf cL_78) kF_RX6_19 rfl (fun q hq => by cases hq; rfl) (show cS_278[139]? = some (.inr (4, [some (some 140), none, none])) by decide +kernel) rfl rfl rfl mOf_w dX6_init_19 ?_
  exact X_return dX6_init_22 rfl (Nat.le_refl _) (Nat.le_refl _) ⟨rfl, rfl, rfl⟩
set_option maxHeartbeats 1000000 in
theorem xI_74 {ξ : xX} : X ξ mIX5_16_1016 0 [.ref 124] [] cS_247 (mOf cL_70) 0 0 (xr none cS_279 (mOf cL_80)) := by
  refine X_aload_n (x := 124) dX5_init_0 rfl ?_
  refine X_obj kO_RX5_3 (Nat.le_of_ble_eq_true rfl) (Nat.le_of_ble_eq_true rfl) dX5_init_1 ?_
  refine X_aload_n (x := 124) dX5_init_4 rfl ?_
  refine X_newC [some none, none, none] tyX6 125 cS_248 (mOf cL_70) rfl win_X6 tyX6_ok kN_RX5_9 (by decide) (Nat.le_of_ble_eq_true rfl) (Nat.le_of_ble_eq_true rfl) (by decide +kernel) rfl (mOf_n (by decide +kernel)) dX5_init_5 ?_
  refine X_dup dX5_init_8 rfl ?_
  refine X_bipush 8 dX5_init_9 rfl ?_
  refine X_bipush 7 dX5_init_11 rfl ?_
  refine X_iC (μ' := mIX6_1_56) [.int 8, .int 7] [.ref 125, .ref 124] cS_250 (mOf cL_71) kL_RX5_11 kI_mIX6_1_56 rfl rfl dX5_init_13 xI_66 ?_
  refine X_putFR cS_251 kF_RX5_14 rfl (fun q hq => by cases hq; rfl) (show cS_250[124]? = some (.inr (3, [some none, some none, some none, some none, some none, some none, some none, some none, none, none])) by decide +kernel) rfl (fun _ => rfl) (fun _ => rfl) rfl dX5_init_16 ?_
  refine X_aload_n (x := 124) dX5_init_19 rfl ?_
  refine X_newC [some none, none, none] tyX6 127 cS_252 (mOf cL_71) rfl win_X6 tyX6_ok kN_RX5_9 (by decide) (Nat.le_of_ble_eq_true rfl) (Nat.le_of_ble_eq_true rfl) (by decide +kernel) rfl (mOf_n (by decide +kernel)) dX5_init_20 ?_
  refine X_dup dX5_init_23 rfl ?_
  refine X_iconst 4 dX5_init_24 rfl ?_
  refine X_bipush 6 dX5_init_25 rfl ?_
  refine X_iC (μ' := mIX6_1_24) [.int 4, .int 6] [.ref 127, .ref 124] cS_254 (mOf cL_72) kL_RX5_11 kI_mIX6_1_24 rfl rfl dX5_init_27 xI_67 ?_
  refine X_putFR cS_255 kF_RX5_20 rfl (fun q hq => by cases hq; rfl) (show cS_254[124]? = some (.inr (3, [some (some 125), some none, some none, some none, some none, some none, some none, some none, none, none])) by decide +kernel) rfl (fun _ => rfl) (fun _ => rfl) rfl dX5_init_30 ?_
  refine X_aload_n (x := 124) dX5_init_33 rfl ?_
  refine X_newC [some none, none, none] tyX6 129 cS_256 (mOf cL_72) rfl win_X6 tyX6_ok kN_RX5_9 (by decide) (Nat.le_of_ble_eq_true rfl) (Nat.le_of_ble_eq_true rfl) (by decide +kernel) rfl (mOf_n (by decide +kernel)) dX5_init_34 ?_
  refine X_dup dX5_init_37 rfl ?_
  refine X_bipush 16 dX5_init_38 rfl ?_
  refine X_bipush 6 dX5_init_40 rfl ?_
  refine X_iC (μ' := mIX6_1_96) [.int 16, .int 6] [.ref 129, .ref 124] cS_258 (mOf cL_73) kL_RX5_11 kI_mIX6_1_96 rfl rfl dX5_init_42 xI_68 ?_
  refine X_putFR cS_259 kF_RX5_23 rfl (fun q hq => by cases hq; rfl) (show cS_258[124]? = some (.inr (3, [some (some 125), some (some 127), some none, some none, some none, some none, some none, some none, none, none])) by decide +kernel) rfl (fun _ => rfl) (fun _ => rfl) rfl dX5_init_45 ?_
  refine X_aload_n (x := 124) dX5_init_48 rfl ?_
  refine X_newC [some none, none, none] tyX6 131 cS_260 (mOf cL_73) rfl win_X6 tyX6_ok kN_RX5_9 (by decide) (Nat.le_of_ble_eq_true rfl) (Nat.le_of_ble_eq_true rfl) (by decide +kernel) rfl (mOf_n (by decide +kernel)) dX5_init_49 ?_
  refine X_dup dX5_init_52 rfl ?_
  refine X_bipush 64 dX5_init_53 rfl ?_
  refine X_iconst 4 dX5_init_55 rfl ?_
  refine X_iC (μ' := mIX6_1_256) [.int 64, .int 4] [.ref 131, .ref 124] cS_262 (mOf cL_74) kL_RX5_11 kI_mIX6_1_256 rfl rfl dX5_init_56 xI_69 ?_
  refine X_putFR cS_263 kF_RX5_26 rfl (fun q hq => by cases hq; rfl) (show cS_262[124]? = some (.inr (3, [some (some 125), some (some 127), some (some 129), some none, some none, some none, some none, some none, none, none])) by decide +kernel) rfl (fun _ => rfl) (fun _ => rfl) rfl dX5_init_59 ?_
  refine X_aload_n (x := 124) dX5_init_62 rfl ?_
  refine X_newC [some none, none, none] tyX6 133 cS_264 (mOf cL_74) rfl win_X6 tyX6_ok kN_RX5_9 (by decide) (Nat.le_of_ble_eq_true rfl) (Nat.le_of_ble_eq_true rfl) (by decide +kernel) rfl (mOf_n (by decide +kernel)) dX5_init_63 ?_
  refine X_dup dX5_init_66 rfl ?_
  refine X_bipush 24 dX5_init_67 rfl ?_
  refine X_bipush 11 dX5_init_69 rfl ?_
  refine X_iC (μ' := mIX6_1_264) [.int 24, .int 11] [.ref 133, .ref 124] cS_266 (mOf cL_75) kL_RX5_11 kI_mIX6_1_264 rfl rfl dX5_init_71 xI_70 ?_
  refine X_putFR cS_267 kF_RX5_29 rfl (fun q hq => by cases hq; rfl) (show cS_266[124]? = some (.inr (3, [some (some 125), some (some 127), some (some 129), some (some 131), some none, some none, some none, some none, none, none])) by decide +kernel) rfl (fun _ => rfl) (fun _ => rfl) rfl dX5_init_74 ?_
  refine X_aload_n (x := 124) dX5_init_77 rfl ?_
  refine X_newC [some none, none, none] tyX6 135 cS_268 (mOf cL_75) rfl win_X6 tyX6_ok kN_RX5_9 (by decide) (Nat.le_of_ble_eq_true rfl) (Nat.le_of_ble_eq_true rfl) (by decide +kernel) rfl (mOf_n (by decide +kernel)) dX5_init_78 ?_
  refine X_dup dX5_init_81 rfl ?_
  refine X_bipush 24 dX5_init_82 rfl ?_
  refine X_iconst 5 dX5_init_84 rfl ?_
  refine X_iC (μ' := mIX6_1_120) [.int 24, .int 5] [.ref 135, .ref 124] cS_270 (mOf cL_76) kL_RX5_11 kI_mIX6_1_120 rfl rfl dX5_init_85 xI_71 ?_
  refine X_putFR cS_271 kF_RX5_32 rfl (fun q hq => by cases hq; rfl) (show cS_270[124]? = some (.inr (3, [some (some 125), some (some 127), some (some 129), some (some 131), some (some 133), some none, some none, some none, none, none])) by decide +kernel) rfl (fun _ => rfl) (fun _ => rfl) rfl dX5_init_88 ?_
  refine X_aload_n (x := 124) dX5_init_91 rfl ?_
  refine X_newC [some none, none, none] tyX6 137 cS_272 (mOf cL_76) rfl win_X6 tyX6_ok kN_RX5_9 (by decide) (Nat.le_of_ble_eq_true rfl) (Nat.le_of_ble_eq_true rfl) (by decide +kernel) rfl (mOf_n (by decide +kernel)) dX5_init_92 ?_
  refine X_dup dX5_init_95 rfl ?_
  refine X_bipush 16 dX5_init_96 rfl ?_
  refine X_bipush 10 dX5_init_98 rfl ?_
  refine X_iC (μ' := mIX6_1_160) [.int 16, .int 10] [.ref 137, .ref 124] cS_274 (mOf cL_77) kL_RX5_11 kI_mIX6_1_160 rfl rfl dX5_init_100 xI_72 ?_
  refine X_putFR cS_275 kF_RX5_35 rfl (fun q hq => by cases hq; rfl) (show cS_274[124]? = some (.inr (3, [some (some 125), some (some 127), some (some 129), some (some 131), some (some 133), some (some 135), some none, some none, none, none])) by decide +kernel) rfl (fun _ => rfl) (fun _ => rfl) rfl dX5_init_103 ?_
  refine X_aload_n (x := 124) dX5_init_106 rfl ?_
  refine X_newC [some none, none, none] tyX6 139 cS_276 (mOf cL_77) rfl win_X6 tyX6_ok kN_RX5_9 (by decide) (Nat.le_of_ble_eq_true rfl) (Nat.le_of_ble_eq_true rfl) (by decide +kernel) rfl (mOf_n (by decide +kernel)) dX5_init_107 ?_
  refine X_dup dX5_init_110 rfl ?_
  refine X_bipush 8 dX5_init_111 rfl ?_
  refine X_iconst 2 dX5_init_113 rfl ?_
  refine X_iC (μ' := mIX6_1_16) [.int 8, .int 2] [.ref 139, .ref 124] cS_278 (mOf cL_78) kL_RX5_11 kI_mIX6_1_16 rfl rfl dX5_init_114 xI_73 ?_
  refine X_putFR cS_279 kF_RX5_38 rfl (fun q hq => by cases hq; rfl) (show cS_278[124]? = some (.inr (3, [some (some 125), some (some 127), some (some 129), some (some 131), some (some 133), some (some 135), some (some 137), some none, none, none])) by decide +kernel) rfl (fun _ => rfl) (fun _ => rfl) rfl dX5_init_117 ?_
  refine X_aload_n (x := 124) dX5_init_120 rfl ?_
  refine X_get (v := .ref 131) kF_RX5_26 (show cS_279[124]? = some (.inr (3, [some (some 125), some (some 127), some (some 129), some (some 131), some (some 133), some (some 135), some (some 137), some (some 139), none, none])) by decide +kernel) rfl rfl dX5_init_121 ?_
  refine X_bipush 64 dX5_init_124 rfl ?_
  refine X_putIC (mOf cL_79) kF_RX5_41 (show cS_279[131]? = some (.inr (4, [some (some 132), none, none])) by decide +kernel) rfl rfl rfl mOf_w dX5_init_126 ?_
  refine X_aload_n (x := 124) dX5_init_129 rfl ?_
  refine X_get (v := .ref 139) kF_RX5_38 (show cS_279[124]? = some (.inr (3, [some (some 125), some (some 127), some (some 129), some (some 131), some (some 133), some (some 135), some (some 137), some (some 139), none, none])) by decide +kernel) rfl rfl dX5_init_130 ?_
  refine X_bipush 8 dX5_init_133 rfl ?_
  refine X_putIC (mOf cL_80) kF_RX5_41 (show cS_279[139]? = some (.inr (4, [some (some 140), none, none])) by decide +kernel) rfl rfl rfl mOf_w dX5_init_135 ?_
  exact X_return dX5_init_138 rfl (Nat.le_refl _) (Nat.le_refl _) ⟨rfl, rfl, rfl⟩
set_option maxHeartbeats 1000000 in
theorem xI_75 {ξ : xX} : X ξ mIX4_17_1026 0 [.ref 123] [] cS_246 (mOf cL_70) 0 0 (xr none cS_280 (mOf cL_80)) := by
  refine X_aload_n (x := 123) dX4_init_0 rfl ?_
  refine X_obj kO_RX4_1 (Nat.le_of_ble_eq_true rfl) (Nat.le_of_ble_eq_true rfl) dX4_init_1 ?_
  refine X_aload_n (x := 123) dX4_init_4 rfl ?_
  refine X_newC [some none, some none, some none, some none, some none, some none, some none, some none, none, none] tyX5 124 cS_247 (mOf cL_70) rfl win_X5 tyX5_ok kN_RX4_7 (by decide) (Nat.le_of_ble_eq_true rfl) (Nat.le_of_ble_eq_true rfl) (by decide +kernel) rfl (mOf_n (by decide +kernel)) dX4_init_5 ?_
  refine X_dup dX4_init_8 rfl ?_
  refine X_iC (μ' := mIX5_16_1016) [] [.ref 124, .ref 123] cS_279 (mOf cL_80) kL_RX4_9 kI_mIX5_16_1016 rfl rfl dX4_init_9 xI_74 ?_
  refine X_putFR cS_280 kF_RX4_10 rfl (fun q hq => by cases hq; rfl) (show cS_279[123]? = some (.inr (2, [some none, none])) by decide +kernel) rfl (fun _ => rfl) (fun _ => rfl) rfl dX4_init_12 ?_
  exact X_return dX4_init_15 rfl (Nat.le_refl _) (Nat.le_refl _) ⟨rfl, rfl, rfl⟩
set_option maxHeartbeats 1000000 in
theorem xI_76 {ξ : xX} : X ξ mIX7_2_84 0 [.ref 141] [] cS_282 (mOf cL_80) 0 0 (xr none cS_286 (mOf cL_80)) := by
  refine X_aload_n (x := 141) dX7_init_0 rfl ?_
  refine X_obj kO_RX7_3 (Nat.le_of_ble_eq_true rfl) (Nat.le_of_ble_eq_true rfl) dX7_init_1 ?_
  refine X_aload_n (x := 141) dX7_init_4 rfl ?_
  refine X_bipush 80 dX7_init_5 rfl ?_
  refine X_newaC 0 80 142 cS_283 (mOf cL_80) ⟨rfl, rfl⟩ kA_0 (by decide) (by decide) (Nat.le_of_ble_eq_true rfl) (Nat.le_of_ble_eq_true rfl) (Nat.le_of_ble_eq_true rfl) (by decide +kernel) rfl (mOf_n (by decide +kernel)) dX7_init_7 ?_
  refine X_putFR cS_284 kF_RX7_11 rfl (fun q hq => by cases hq; rfl) (show cS_283[141]? = some (.inr (5, [some none, some none, none])) by decide +kernel) rfl (fun _ => rfl) (fun _ => rfl) rfl dX7_init_9 ?_
  refine X_aload_n (x := 141) dX7_init_12 rfl ?_
  refine X_iconst 4 dX7_init_13 rfl ?_
  refine X_newaC 0 4 143 cS_285 (mOf cL_80) ⟨rfl, rfl⟩ kA_0 (by decide) (by decide) (Nat.le_of_ble_eq_true rfl) (Nat.le_of_ble_eq_true rfl) (Nat.le_of_ble_eq_true rfl) (by decide +kernel) rfl (mOf_n (by decide +kernel)) dX7_init_14 ?_
  refine X_putFR cS_286 kF_RX7_15 rfl (fun q hq => by cases hq; rfl) (show cS_285[141]? = some (.inr (5, [some (some 142), some none, none])) by decide +kernel) rfl (fun _ => rfl) (fun _ => rfl) rfl dX7_init_16 ?_
  exact X_return dX7_init_19 rfl (Nat.le_refl _) (Nat.le_refl _) ⟨rfl, rfl, rfl⟩
set_option maxHeartbeats 1000000 in
theorem xI_77 {ξ : xX} : X ξ mIX0_3_94 0 [.ref 144] [] cS_288 (mOf cL_80) 0 0 (xr none cS_294 (mOf cL_80)) := by
  refine X_aload_n (x := 144) dX0_init_0 rfl ?_
  refine X_obj kO_RX0_3 (Nat.le_of_ble_eq_true rfl) (Nat.le_of_ble_eq_true rfl) dX0_init_1 ?_
  refine X_aload_n (x := 144) dX0_init_4 rfl ?_
  refine X_bipush 6 dX0_init_5 rfl ?_
  refine X_newaC 0 6 145 cS_289 (mOf cL_80) ⟨rfl, rfl⟩ kA_0 (by decide) (by decide) (Nat.le_of_ble_eq_true rfl) (Nat.le_of_ble_eq_true rfl) (Nat.le_of_ble_eq_true rfl) (by decide +kernel) rfl (mOf_n (by decide +kernel)) dX0_init_7 ?_
  refine X_putFR cS_290 kF_RX0_11 rfl (fun q hq => by cases hq; rfl) (show cS_289[144]? = some (.inr (0, [some none, some none, some none, none, none])) by decide +kernel) rfl (fun _ => rfl) (fun _ => rfl) rfl dX0_init_9 ?_
  refine X_aload_n (x := 144) dX0_init_12 rfl ?_
  refine X_bipush 24 dX0_init_13 rfl ?_
  refine X_newaC 0 24 146 cS_291 (mOf cL_80) ⟨rfl, rfl⟩ kA_0 (by decide) (by decide) (Nat.le_of_ble_eq_true rfl) (Nat.le_of_ble_eq_true rfl) (Nat.le_of_ble_eq_true rfl) (by decide +kernel) rfl (mOf_n (by decide +kernel)) dX0_init_15 ?_
  refine X_putFR cS_292 kF_RX0_15 rfl (fun q hq => by cases hq; rfl) (show cS_291[144]? = some (.inr (0, [some (some 145), some none, some none, none, none])) by decide +kernel) rfl (fun _ => rfl) (fun _ => rfl) rfl dX0_init_17 ?_
  refine X_aload_n (x := 144) dX0_init_20 rfl ?_
  refine X_bipush 64 dX0_init_21 rfl ?_
  refine X_newaC 0 64 147 cS_293 (mOf cL_80) ⟨rfl, rfl⟩ kA_0 (by decide) (by decide) (Nat.le_of_ble_eq_true rfl) (Nat.le_of_ble_eq_true rfl) (Nat.le_of_ble_eq_true rfl) (by decide +kernel) rfl (mOf_n (by decide +kernel)) dX0_init_23 ?_
  refine X_putFR cS_294 kF_RX0_18 rfl (fun q hq => by cases hq; rfl) (show cS_293[144]? = some (.inr (0, [some (some 145), some (some 146), some none, none, none])) by decide +kernel) rfl (fun _ => rfl) (fun _ => rfl) rfl dX0_init_25 ?_
  exact X_return dX0_init_28 rfl (Nat.le_refl _) (Nat.le_refl _) ⟨rfl, rfl, rfl⟩
set_option maxHeartbeats 1000000 in
theorem xI_78 {ξ : xX} : X ξ mIX8_148_8411 0 [.ref 0] [] cS_1 (mOf cL_0) 0 0 (xr none cS_297 (mOf cL_80)) := by
  refine X_aload_n (x := 0) dX8_init_0 rfl ?_
  refine X_obj kO_RX8_1 (Nat.le_of_ble_eq_true rfl) (Nat.le_of_ble_eq_true rfl) dX8_init_1 ?_
  refine X_aload_n (x := 0) dX8_init_4 rfl ?_
  refine X_newC [some none, some none, some none, some none, some none, some none, some none, some none, none, none] tyX5 1 cS_2 (mOf cL_0) rfl win_X5 tyX5_ok kN_RX8_7 (by decide) (Nat.le_of_ble_eq_true rfl) (Nat.le_of_ble_eq_true rfl) (by decide +kernel) rfl (mOf_n (by decide +kernel)) dX8_init_5 ?_
  refine X_dup dX8_init_8 rfl ?_
  refine X_iC (μ' := mIX5_16_1016) [] [.ref 1, .ref 0] cS_34 (mOf cL_10) kL_RX8_9 kI_mIX5_16_1016 rfl rfl dX8_init_9 xI_9 ?_
  refine X_putFR cS_35 kF_RX8_10 rfl (fun q hq => by cases hq; rfl) (show cS_34[0]? = some (.inr (6, [some none, some none, some none, some none, some none, some none, some none])) by decide +kernel) rfl (fun _ => rfl) (fun _ => rfl) rfl dX8_init_12 ?_
  refine X_aload_n (x := 0) dX8_init_15 rfl ?_
  refine X_newC [some none, none, none] tyX1 18 cS_36 (mOf cL_10) rfl win_X1 tyX1_ok kN_RX8_16 (by decide) (Nat.le_of_ble_eq_true rfl) (Nat.le_of_ble_eq_true rfl) (by decide +kernel) rfl (mOf_n (by decide +kernel)) dX8_init_16 ?_
  refine X_dup dX8_init_19 rfl ?_
  refine X_iC (μ' := mIX1_86_5135) [] [.ref 18, .ref 0] cS_208 (mOf cL_60) kL_RX8_18 kI_mIX1_86_5135 rfl rfl dX8_init_20 xI_55 ?_
  refine X_putFR cS_209 kF_RX8_19 rfl (fun q hq => by cases hq; rfl) (show cS_208[0]? = some (.inr (6, [some (some 1), some none, some none, some none, some none, some none, some none])) by decide +kernel) rfl (fun _ => rfl) (fun _ => rfl) rfl dX8_init_23 ?_
  refine X_aload_n (x := 0) dX8_init_26 rfl ?_
  refine X_newC [some none, none] tyX4 105 cS_210 (mOf cL_60) rfl win_X4 tyX4_ok kN_RX8_23 (by decide) (Nat.le_of_ble_eq_true rfl) (Nat.le_of_ble_eq_true rfl) (by decide +kernel) rfl (mOf_n (by decide +kernel)) dX8_init_27 ?_
  refine X_dup dX8_init_30 rfl ?_
  refine X_iC (μ' := mIX4_17_1026) [] [.ref 105, .ref 0] cS_244 (mOf cL_70) kL_RX8_25 kI_mIX4_17_1026 rfl rfl dX8_init_31 xI_65 ?_
  refine X_putFR cS_245 kF_RX8_26 rfl (fun q hq => by cases hq; rfl) (show cS_244[0]? = some (.inr (6, [some (some 1), some (some 18), some none, some none, some none, some none, some none])) by decide +kernel) rfl (fun _ => rfl) (fun _ => rfl) rfl dX8_init_34 ?_
  refine X_aload_n (x := 0) dX8_init_37 rfl ?_
  refine X_newC [some none, none] tyX4 123 cS_246 (mOf cL_70) rfl win_X4 tyX4_ok kN_RX8_23 (by decide) (Nat.le_of_ble_eq_true rfl) (Nat.le_of_ble_eq_true rfl) (by decide +kernel) rfl (mOf_n (by decide +kernel)) dX8_init_38 ?_
  refine X_dup dX8_init_41 rfl ?_
  refine X_iC (μ' := mIX4_17_1026) [] [.ref 123, .ref 0] cS_280 (mOf cL_80) kL_RX8_25 kI_mIX4_17_1026 rfl rfl dX8_init_42 xI_75 ?_
  refine X_putFR cS_281 kF_RX8_30 rfl (fun q hq => by cases hq; rfl) (show cS_280[0]? = some (.inr (6, [some (some 1), some (some 18), some (some 105), some none, some none, some none, some none])) by decide +kernel) rfl (fun _ => rfl) (fun _ => rfl) rfl dX8_init_45 ?_
  refine X_aload_n (x := 0) dX8_init_48 rfl ?_
  refine X_newC [some none, some none, none] tyX7 141 cS_282 (mOf cL_80) rfl win_X7 tyX7_ok kN_RX8_33 (by decide) (Nat.le_of_ble_eq_true rfl) (Nat.le_of_ble_eq_true rfl) (by decide +kernel) rfl (mOf_n (by decide +kernel)) dX8_init_49 ?_
  refine X_dup dX8_init_52 rfl ?_
  refine X_iC (μ' := mIX7_2_84) [] [.ref 141, .ref 0] cS_286 (mOf cL_80) kL_RX8_35 kI_mIX7_2_84 rfl rfl dX8_init_53 xI_76 ?_
  refine X_putFR cS_287 kF_RX8_36 rfl (fun q hq => by cases hq; rfl) (show cS_286[0]? = some (.inr (6, [some (some 1), some (some 18), some (some 105), some (some 123), some none, some none, some none])) by decide +kernel) rfl (fun _ => rfl) (fun _ => rfl) rfl dX8_init_56 ?_
  refine X_aload_n (x := 0) dX8_init_59 rfl ?_
  refine X_newC [some none, some none, some none, none, none] tyX0 144 cS_288 (mOf cL_80) rfl win_X0 tyX0_ok kN_RX8_40 (by decide) (Nat.le_of_ble_eq_true rfl) (Nat.le_of_ble_eq_true rfl) (by decide +kernel) rfl (mOf_n (by decide +kernel)) dX8_init_60 ?_
  refine X_dup dX8_init_63 rfl ?_
  refine X_iC (μ' := mIX0_3_94) [] [.ref 144, .ref 0] cS_294 (mOf cL_80) kL_RX8_42 kI_mIX0_3_94 rfl rfl dX8_init_64 xI_77 ?_
  refine X_putFR cS_295 kF_RX8_43 rfl (fun q hq => by cases hq; rfl) (show cS_294[0]? = some (.inr (6, [some (some 1), some (some 18), some (some 105), some (some 123), some (some 141), some none, some none])) by decide +kernel) rfl (fun _ => rfl) (fun _ => rfl) rfl dX8_init_67 ?_
  refine X_aload_n (x := 0) dX8_init_70 rfl ?_
  refine X_iconst 5 dX8_init_71 rfl ?_
  refine X_newaC 0 5 148 cS_296 (mOf cL_80) ⟨rfl, rfl⟩ kA_0 (by decide) (by decide) (Nat.le_of_ble_eq_true rfl) (Nat.le_of_ble_eq_true rfl) (Nat.le_of_ble_eq_true rfl) (by decide +kernel) rfl (mOf_n (by decide +kernel)) dX8_init_72 ?_
  refine X_putFR cS_297 kF_RX8_47 rfl (fun q hq => by cases hq; rfl) (show cS_296[0]? = some (.inr (6, [some (some 1), some (some 18), some (some 105), some (some 123), some (some 141), some (some 144), some none])) by decide +kernel) rfl (fun _ => rfl) (fun _ => rfl) rfl dX8_init_74 ?_
  exact X_return dX8_init_77 rfl (Nat.le_refl _) (Nat.le_refl _) ⟨rfl, rfl, rfl⟩
