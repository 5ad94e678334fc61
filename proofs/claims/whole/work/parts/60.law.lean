abbrev mL_law : xD := (yL_law, cL_law, 4, some .boolean, 10, 414, 600000, 7302250)
def f_L_law_1573 (ξ : xX) (k18 : xM → Int32 → Option (Int32 × xM)) (M : xM) (i3 : Int32) : Option (Int32 × xM) :=
  xl (i3 + 7) fun v2 =>
  k18 M v2
set_option maxHeartbeats 1000000 in
theorem x_L_law_1573 {ξ : xX} {M : xM} {k18 : xM → Int32 → Option (Int32 × xM)} {i3 : Int32} (hk18 : ∀ (M : xM) (j3 : Int32) (z : (Int32 × xM)), k18 M j3 = some z → X ξ mL_law 18 [.float 3, .ref 0, .ref 149, .int j3] [] SH M 159 15861 (xr (some (.int z.1)) SH z.2)) {z : (Int32 × xM)} (h : f_L_law_1573 ξ k18 M i3 = some z) : X ξ mL_law 1573 [.float 3, .ref 0, .ref 149, .int i3] [] SH M 159 15861 (xr (some (.int z.1)) SH z.2) := by
  rw [f_L_law_1573] at h
  refine X_iincL (x := i3) 7 (fun v2 => [.float 3, .ref 0, .ref 149, .int v2]) dL_law_1573 rfl rfl (Nat.le_of_ble_eq_true rfl) (xcat1_of rfl) h (fun _ => rfl) (fun v2 h => ?_)
  refine X_goto 18 dL_law_1576 (by decide) ?_
  exact hk18 _ _ _ h
def f_L_law_18 (ξ : xX) : Nat → xM → Int32 → Option (Int32 × xM)
  | 0, _, _ => none
  | fu + 1, M, i3 =>
    if ((Int32.ofNat ξ.1) - 7) < i3 then (
      some (1, M))
    else (
      xgd (xin i3 ξ.1) <|
      if ((ξ.2 i3.toNatClampNeg) &&& 63) = 0 then (
        xgd (xin (i3 + 1) ξ.1) <|
        xgd (xin (i3 + 2) ξ.1) <|
        xgd (xin (i3 + 3) ξ.1) <|
        xgd (xin (i3 + 4) ξ.1) <|
        xgd (xin (i3 + 5) ξ.1) <|
        xb2 (f_X8_addCarrier M (ξ.2 (i3 + 1).toNatClampNeg) (ξ.2 (i3 + 2).toNatClampNeg) (ξ.2 (i3 + 3).toNatClampNeg) (ξ.2 (i3 + 4).toNatClampNeg) (ξ.2 (i3 + 5).toNatClampNeg)) fun v3 M4 =>
        xgd (xin (i3 + 1) ξ.1) <|
        xgd (xin (i3 + 2) ξ.1) <|
        xgd (xin (i3 + 3) ξ.1) <|
        xgd (xin (i3 + 4) ξ.1) <|
        xgd (xin (i3 + 5) ξ.1) <|
        xb2 (f_X9_addCarrier M4 (ξ.2 (i3 + 1).toNatClampNeg) (ξ.2 (i3 + 2).toNatClampNeg) (ξ.2 (i3 + 3).toNatClampNeg) (ξ.2 (i3 + 4).toNatClampNeg) (ξ.2 (i3 + 5).toNatClampNeg)) fun v5 M6 =>
        if v3 = v5 then (
          f_L_law_1573 ξ (f_L_law_18 ξ fu) M6 i3)
        else (
          some (0, M6)))
      else (
        if ((ξ.2 i3.toNatClampNeg) &&& 63) = 1 then (
          xgd (xin (i3 + 1) ξ.1) <|
          xgd (xin (i3 + 2) ξ.1) <|
          xgd (xin (i3 + 3) ξ.1) <|
          xgd (xin (i3 + 4) ξ.1) <|
          xb2 (f_X8_addMachine M (ξ.2 (i3 + 1).toNatClampNeg) (ξ.2 (i3 + 2).toNatClampNeg) (ξ.2 (i3 + 3).toNatClampNeg) (ξ.2 (i3 + 4).toNatClampNeg)) fun v7 M8 =>
          xgd (xin (i3 + 1) ξ.1) <|
          xgd (xin (i3 + 2) ξ.1) <|
          xgd (xin (i3 + 3) ξ.1) <|
          xgd (xin (i3 + 4) ξ.1) <|
          xb2 (f_X9_addMachine M8 (ξ.2 (i3 + 1).toNatClampNeg) (ξ.2 (i3 + 2).toNatClampNeg) (ξ.2 (i3 + 3).toNatClampNeg) (ξ.2 (i3 + 4).toNatClampNeg)) fun v9 M10 =>
          if v7 = v9 then (
            f_L_law_1573 ξ (f_L_law_18 ξ fu) M10 i3)
          else (
            some (0, M10)))
        else (
          if ((ξ.2 i3.toNatClampNeg) &&& 63) = 2 then (
            xgd (xin (i3 + 1) ξ.1) <|
            xgd (xin (i3 + 2) ξ.1) <|
            xgd (xin (i3 + 3) ξ.1) <|
            xgd (xin (i3 + 4) ξ.1) <|
            xb2 (f_X8_addRecording M (ξ.2 (i3 + 1).toNatClampNeg) (ξ.2 (i3 + 2).toNatClampNeg) (ξ.2 (i3 + 3).toNatClampNeg) (ξ.2 (i3 + 4).toNatClampNeg)) fun v11 M12 =>
            xgd (xin (i3 + 1) ξ.1) <|
            xgd (xin (i3 + 2) ξ.1) <|
            xgd (xin (i3 + 3) ξ.1) <|
            xgd (xin (i3 + 4) ξ.1) <|
            xb2 (f_X9_addRecording M12 (ξ.2 (i3 + 1).toNatClampNeg) (ξ.2 (i3 + 2).toNatClampNeg) (ξ.2 (i3 + 3).toNatClampNeg) (ξ.2 (i3 + 4).toNatClampNeg)) fun v13 M14 =>
            if v11 = v13 then (
              f_L_law_1573 ξ (f_L_law_18 ξ fu) M14 i3)
            else (
              some (0, M14)))
          else (
            if ((ξ.2 i3.toNatClampNeg) &&& 63) = 3 then (
              xgd (xin (i3 + 1) ξ.1) <|
              xgd (xin (i3 + 2) ξ.1) <|
              xgd (xin (i3 + 3) ξ.1) <|
              xgd (xin (i3 + 4) ξ.1) <|
              xgd (xin (i3 + 5) ξ.1) <|
              xb2 (f_X8_addPart M (ξ.2 (i3 + 1).toNatClampNeg) (ξ.2 (i3 + 2).toNatClampNeg) (ξ.2 (i3 + 3).toNatClampNeg) (ξ.2 (i3 + 4).toNatClampNeg) (ξ.2 (i3 + 5).toNatClampNeg)) fun v15 M16 =>
              xgd (xin (i3 + 1) ξ.1) <|
              xgd (xin (i3 + 2) ξ.1) <|
              xgd (xin (i3 + 3) ξ.1) <|
              xgd (xin (i3 + 4) ξ.1) <|
              xgd (xin (i3 + 5) ξ.1) <|
              xb2 (f_X9_addPart M16 (ξ.2 (i3 + 1).toNatClampNeg) (ξ.2 (i3 + 2).toNatClampNeg) (ξ.2 (i3 + 3).toNatClampNeg) (ξ.2 (i3 + 4).toNatClampNeg) (ξ.2 (i3 + 5).toNatClampNeg)) fun v17 M18 =>
              if v15 = v17 then (
                f_L_law_1573 ξ (f_L_law_18 ξ fu) M18 i3)
              else (
                some (0, M18)))
            else (
              if ((ξ.2 i3.toNatClampNeg) &&& 63) = 4 then (
                xgd (xin (i3 + 1) ξ.1) <|
                xgd (xin (i3 + 2) ξ.1) <|
                xgd (xin (i3 + 3) ξ.1) <|
                xgd (xin (i3 + 4) ξ.1) <|
                xb2 (f_X8_transfer M (ξ.2 (i3 + 1).toNatClampNeg) (ξ.2 (i3 + 2).toNatClampNeg) (ξ.2 (i3 + 3).toNatClampNeg) (ξ.2 (i3 + 4).toNatClampNeg)) fun v19 M20 =>
                xgd (xin (i3 + 1) ξ.1) <|
                xgd (xin (i3 + 2) ξ.1) <|
                xgd (xin (i3 + 3) ξ.1) <|
                xgd (xin (i3 + 4) ξ.1) <|
                xb2 (f_X9_transfer M20 (ξ.2 (i3 + 1).toNatClampNeg) (ξ.2 (i3 + 2).toNatClampNeg) (ξ.2 (i3 + 3).toNatClampNeg) (ξ.2 (i3 + 4).toNatClampNeg)) fun v21 M22 =>
                if v19 = v21 then (
                  f_L_law_1573 ξ (f_L_law_18 ξ fu) M22 i3)
                else (
                  some (0, M22)))
              else (
                if ((ξ.2 i3.toNatClampNeg) &&& 63) = 5 then (
                  xgd (xin (i3 + 1) ξ.1) <|
                  xgd (xin (i3 + 2) ξ.1) <|
                  xgd (xin (i3 + 3) ξ.1) <|
                  xgd (xin (i3 + 4) ξ.1) <|
                  xb2 (f_X8_permit M (ξ.2 (i3 + 1).toNatClampNeg) (ξ.2 (i3 + 2).toNatClampNeg) (ξ.2 (i3 + 3).toNatClampNeg) (ξ.2 (i3 + 4).toNatClampNeg)) fun v23 M24 =>
                  xgd (xin (i3 + 1) ξ.1) <|
                  xgd (xin (i3 + 2) ξ.1) <|
                  xgd (xin (i3 + 3) ξ.1) <|
                  xgd (xin (i3 + 4) ξ.1) <|
                  xb2 (f_X9_permit M24 (ξ.2 (i3 + 1).toNatClampNeg) (ξ.2 (i3 + 2).toNatClampNeg) (ξ.2 (i3 + 3).toNatClampNeg) (ξ.2 (i3 + 4).toNatClampNeg)) fun v25 M26 =>
                  if v23 = v25 then (
                    f_L_law_1573 ξ (f_L_law_18 ξ fu) M26 i3)
                  else (
                    some (0, M26)))
                else (
                  if ((ξ.2 i3.toNatClampNeg) &&& 63) = 6 then (
                    xgd (xin (i3 + 1) ξ.1) <|
                    xb2 (f_X8_revoke M (ξ.2 (i3 + 1).toNatClampNeg)) fun v27 M28 =>
                    xgd (xin (i3 + 1) ξ.1) <|
                    xb2 (f_X9_revoke M28 (ξ.2 (i3 + 1).toNatClampNeg)) fun v29 M30 =>
                    if v27 = v29 then (
                      f_L_law_1573 ξ (f_L_law_18 ξ fu) M30 i3)
                    else (
                      some (0, M30)))
                  else (
                    if ((ξ.2 i3.toNatClampNeg) &&& 63) = 7 then (
                      xgd (xin (i3 + 1) ξ.1) <|
                      xgd (xin (i3 + 2) ξ.1) <|
                      xgd (xin (i3 + 3) ξ.1) <|
                      xgd (xin (i3 + 4) ξ.1) <|
                      xgd (xin (i3 + 5) ξ.1) <|
                      xgd (xin (i3 + 6) ξ.1) <|
                      xb2 (f_X8_request M (ξ.2 (i3 + 1).toNatClampNeg) (ξ.2 (i3 + 2).toNatClampNeg) (ξ.2 (i3 + 3).toNatClampNeg) (ξ.2 (i3 + 4).toNatClampNeg) (ξ.2 (i3 + 5).toNatClampNeg) (ξ.2 (i3 + 6).toNatClampNeg)) fun v31 M32 =>
                      xgd (xin (i3 + 1) ξ.1) <|
                      xgd (xin (i3 + 2) ξ.1) <|
                      xgd (xin (i3 + 3) ξ.1) <|
                      xgd (xin (i3 + 4) ξ.1) <|
                      xgd (xin (i3 + 5) ξ.1) <|
                      xgd (xin (i3 + 6) ξ.1) <|
                      xb2 (f_X9_request M32 (ξ.2 (i3 + 1).toNatClampNeg) (ξ.2 (i3 + 2).toNatClampNeg) (ξ.2 (i3 + 3).toNatClampNeg) (ξ.2 (i3 + 4).toNatClampNeg) (ξ.2 (i3 + 5).toNatClampNeg) (ξ.2 (i3 + 6).toNatClampNeg)) fun v33 M34 =>
                      if v31 = v33 then (
                        f_L_law_1573 ξ (f_L_law_18 ξ fu) M34 i3)
                      else (
                        some (0, M34)))
                    else (
                      if ((ξ.2 i3.toNatClampNeg) &&& 63) = 8 then (
                        xgd (xin (i3 + 1) ξ.1) <|
                        xgd (xin (i3 + 2) ξ.1) <|
                        xb2 (f_X8_setDue M (ξ.2 (i3 + 1).toNatClampNeg) (ξ.2 (i3 + 2).toNatClampNeg)) fun v35 M36 =>
                        xgd (xin (i3 + 1) ξ.1) <|
                        xgd (xin (i3 + 2) ξ.1) <|
                        xb2 (f_X9_setDue M36 (ξ.2 (i3 + 1).toNatClampNeg) (ξ.2 (i3 + 2).toNatClampNeg)) fun v37 M38 =>
                        if v35 = v37 then (
                          f_L_law_1573 ξ (f_L_law_18 ξ fu) M38 i3)
                        else (
                          some (0, M38)))
                      else (
                        if ((ξ.2 i3.toNatClampNeg) &&& 63) = 9 then (
                          xgd (xin (i3 + 1) ξ.1) <|
                          xb2 (f_X8_withdraw M (ξ.2 (i3 + 1).toNatClampNeg)) fun v39 M40 =>
                          xgd (xin (i3 + 1) ξ.1) <|
                          xb2 (f_X9_withdraw M40 (ξ.2 (i3 + 1).toNatClampNeg)) fun v41 M42 =>
                          if v39 = v41 then (
                            f_L_law_1573 ξ (f_L_law_18 ξ fu) M42 i3)
                          else (
                            some (0, M42)))
                        else (
                          if ((ξ.2 i3.toNatClampNeg) &&& 63) = 10 then (
                            xgd (xin (i3 + 1) ξ.1) <|
                            xb2 (f_X8_answer M (ξ.2 (i3 + 1).toNatClampNeg)) fun v43 M44 =>
                            xgd (xin (i3 + 1) ξ.1) <|
                            xb2 (f_X9_answer M44 (ξ.2 (i3 + 1).toNatClampNeg)) fun v45 M46 =>
                            if v43 = v45 then (
                              f_L_law_1573 ξ (f_L_law_18 ξ fu) M46 i3)
                            else (
                              some (0, M46)))
                          else (
                            if ((ξ.2 i3.toNatClampNeg) &&& 63) = 11 then (
                              xgd (xin (i3 + 1) ξ.1) <|
                              xb2 (f_X8_passDays M (ξ.2 (i3 + 1).toNatClampNeg)) fun v47 M48 =>
                              xgd (xin (i3 + 1) ξ.1) <|
                              xb2 (f_X9_passDays M48 (ξ.2 (i3 + 1).toNatClampNeg)) fun v49 M50 =>
                              if v47 = v49 then (
                                f_L_law_1573 ξ (f_L_law_18 ξ fu) M50 i3)
                              else (
                                some (0, M50)))
                            else (
                              if ((ξ.2 i3.toNatClampNeg) &&& 63) = 12 then (
                                xgd (xin (i3 + 1) ξ.1) <|
                                xb2 (f_X8_append M (ξ.2 (i3 + 1).toNatClampNeg)) fun v51 M52 =>
                                xgd (xin (i3 + 1) ξ.1) <|
                                xb2 (f_X9_append M52 (ξ.2 (i3 + 1).toNatClampNeg)) fun v53 M54 =>
                                if v51 = v53 then (
                                  f_L_law_1573 ξ (f_L_law_18 ξ fu) M54 i3)
                                else (
                                  some (0, M54)))
                              else (
                                if ((ξ.2 i3.toNatClampNeg) &&& 63) = 13 then (
                                  xb2 (f_X8_clearText M) fun v55 M56 =>
                                  xb2 (f_X9_clearText M56) fun v57 M58 =>
                                  if v55 = v57 then (
                                    f_L_law_1573 ξ (f_L_law_18 ξ fu) M58 i3)
                                  else (
                                    some (0, M58)))
                                else (
                                  if ((ξ.2 i3.toNatClampNeg) &&& 63) = 14 then (
                                    xb2 (f_X8_faultPosition M) fun v59 M60 =>
                                    xb2 (f_X9_faultPosition M60) fun v61 M62 =>
                                    if v59 = v61 then (
                                      f_L_law_1573 ξ (f_L_law_18 ξ fu) M62 i3)
                                    else (
                                      some (0, M62)))
                                  else (
                                    if ((ξ.2 i3.toNatClampNeg) &&& 63) = 15 then (
                                      xb2 (f_X8_run M) fun v63 M64 =>
                                      xb2 (f_X9_run M64) fun v65 M66 =>
                                      if v63 = v65 then (
                                        f_L_law_1573 ξ (f_L_law_18 ξ fu) M66 i3)
                                      else (
                                        some (0, M66)))
                                    else (
                                      if ((ξ.2 i3.toNatClampNeg) &&& 63) = 16 then (
                                        xb2 (f_X8_undo M) fun v67 M68 =>
                                        xb2 (f_X9_undo M68) fun v69 M70 =>
                                        if v67 = v69 then (
                                          f_L_law_1573 ξ (f_L_law_18 ξ fu) M70 i3)
                                        else (
                                          some (0, M70)))
                                      else (
                                        if ((ξ.2 i3.toNatClampNeg) &&& 63) = 17 then (
                                          xgd (xin (i3 + 1) ξ.1) <|
                                          xb2 (f_X8_save M (ξ.2 (i3 + 1).toNatClampNeg)) fun v71 M72 =>
                                          xgd (xin (i3 + 1) ξ.1) <|
                                          xb2 (f_X9_save M72 (ξ.2 (i3 + 1).toNatClampNeg)) fun v73 M74 =>
                                          if v71 = v73 then (
                                            f_L_law_1573 ξ (f_L_law_18 ξ fu) M74 i3)
                                          else (
                                            some (0, M74)))
                                        else (
                                          if ((ξ.2 i3.toNatClampNeg) &&& 63) = 18 then (
                                            xgd (xin (i3 + 1) ξ.1) <|
                                            xb2 (f_X8_restore M (ξ.2 (i3 + 1).toNatClampNeg)) fun v75 M76 =>
                                            xgd (xin (i3 + 1) ξ.1) <|
                                            xb2 (f_X9_restore M76 (ξ.2 (i3 + 1).toNatClampNeg)) fun v77 M78 =>
                                            if v75 = v77 then (
                                              f_L_law_1573 ξ (f_L_law_18 ξ fu) M78 i3)
                                            else (
                                              some (0, M78)))
                                          else (
                                            if ((ξ.2 i3.toNatClampNeg) &&& 63) = 19 then (
                                              xgd (xin (i3 + 1) ξ.1) <|
                                              xgd (xin (i3 + 2) ξ.1) <|
                                              xb (f_X8_carrier M (ξ.2 (i3 + 1).toNatClampNeg) (ξ.2 (i3 + 2).toNatClampNeg)) fun v79 =>
                                              xgd (xin (i3 + 1) ξ.1) <|
                                              xgd (xin (i3 + 2) ξ.1) <|
                                              xb (f_X9_carrier M (ξ.2 (i3 + 1).toNatClampNeg) (ξ.2 (i3 + 2).toNatClampNeg)) fun v80 =>
                                              if v79 = v80 then (
                                                f_L_law_1573 ξ (f_L_law_18 ξ fu) M i3)
                                              else (
                                                some (0, M)))
                                            else (
                                              if ((ξ.2 i3.toNatClampNeg) &&& 63) = 20 then (
                                                xgd (xin (i3 + 1) ξ.1) <|
                                                xgd (xin (i3 + 2) ξ.1) <|
                                                xb (f_X8_machine M (ξ.2 (i3 + 1).toNatClampNeg) (ξ.2 (i3 + 2).toNatClampNeg)) fun v81 =>
                                                xgd (xin (i3 + 1) ξ.1) <|
                                                xgd (xin (i3 + 2) ξ.1) <|
                                                xb (f_X9_machine M (ξ.2 (i3 + 1).toNatClampNeg) (ξ.2 (i3 + 2).toNatClampNeg)) fun v82 =>
                                                if v81 = v82 then (
                                                  f_L_law_1573 ξ (f_L_law_18 ξ fu) M i3)
                                                else (
                                                  some (0, M)))
                                              else (
                                                if ((ξ.2 i3.toNatClampNeg) &&& 63) = 21 then (
                                                  xgd (xin (i3 + 1) ξ.1) <|
                                                  xgd (xin (i3 + 2) ξ.1) <|
                                                  xb (f_X8_recording M (ξ.2 (i3 + 1).toNatClampNeg) (ξ.2 (i3 + 2).toNatClampNeg)) fun v83 =>
                                                  xgd (xin (i3 + 1) ξ.1) <|
                                                  xgd (xin (i3 + 2) ξ.1) <|
                                                  xb (f_X9_recording M (ξ.2 (i3 + 1).toNatClampNeg) (ξ.2 (i3 + 2).toNatClampNeg)) fun v84 =>
                                                  if v83 = v84 then (
                                                    f_L_law_1573 ξ (f_L_law_18 ξ fu) M i3)
                                                  else (
                                                    some (0, M)))
                                                else (
                                                  if ((ξ.2 i3.toNatClampNeg) &&& 63) = 22 then (
                                                    xgd (xin (i3 + 1) ξ.1) <|
                                                    xgd (xin (i3 + 2) ξ.1) <|
                                                    xgd (xin (i3 + 3) ξ.1) <|
                                                    xb (f_X8_part M (ξ.2 (i3 + 1).toNatClampNeg) (ξ.2 (i3 + 2).toNatClampNeg) (ξ.2 (i3 + 3).toNatClampNeg)) fun v85 =>
                                                    xgd (xin (i3 + 1) ξ.1) <|
                                                    xgd (xin (i3 + 2) ξ.1) <|
                                                    xgd (xin (i3 + 3) ξ.1) <|
                                                    xb (f_X9_part M (ξ.2 (i3 + 1).toNatClampNeg) (ξ.2 (i3 + 2).toNatClampNeg) (ξ.2 (i3 + 3).toNatClampNeg)) fun v86 =>
                                                    if v85 = v86 then (
                                                      f_L_law_1573 ξ (f_L_law_18 ξ fu) M i3)
                                                    else (
                                                      some (0, M)))
                                                  else (
                                                    if ((ξ.2 i3.toNatClampNeg) &&& 63) = 23 then (
                                                      xgd (xin (i3 + 1) ξ.1) <|
                                                      xgd (xin (i3 + 2) ξ.1) <|
                                                      xb (f_X8_pass M (ξ.2 (i3 + 1).toNatClampNeg) (ξ.2 (i3 + 2).toNatClampNeg)) fun v87 =>
                                                      xgd (xin (i3 + 1) ξ.1) <|
                                                      xgd (xin (i3 + 2) ξ.1) <|
                                                      xb (f_X9_pass M (ξ.2 (i3 + 1).toNatClampNeg) (ξ.2 (i3 + 2).toNatClampNeg)) fun v88 =>
                                                      if v87 = v88 then (
                                                        f_L_law_1573 ξ (f_L_law_18 ξ fu) M i3)
                                                      else (
                                                        some (0, M)))
                                                    else (
                                                      if ((ξ.2 i3.toNatClampNeg) &&& 63) = 24 then (
                                                        xgd (xin (i3 + 1) ξ.1) <|
                                                        xgd (xin (i3 + 2) ξ.1) <|
                                                        xb (f_X8_captured M (ξ.2 (i3 + 1).toNatClampNeg) (ξ.2 (i3 + 2).toNatClampNeg)) fun v89 =>
                                                        xgd (xin (i3 + 1) ξ.1) <|
                                                        xgd (xin (i3 + 2) ξ.1) <|
                                                        xb (f_X9_captured M (ξ.2 (i3 + 1).toNatClampNeg) (ξ.2 (i3 + 2).toNatClampNeg)) fun v90 =>
                                                        if v89 = v90 then (
                                                          f_L_law_1573 ξ (f_L_law_18 ξ fu) M i3)
                                                        else (
                                                          some (0, M)))
                                                      else (
                                                        if ((ξ.2 i3.toNatClampNeg) &&& 63) = 25 then (
                                                          xgd (xin (i3 + 1) ξ.1) <|
                                                          xgd (xin (i3 + 2) ξ.1) <|
                                                          xb (f_X8_quality M (ξ.2 (i3 + 1).toNatClampNeg) (ξ.2 (i3 + 2).toNatClampNeg)) fun v91 =>
                                                          xgd (xin (i3 + 1) ξ.1) <|
                                                          xgd (xin (i3 + 2) ξ.1) <|
                                                          xb (f_X9_quality M (ξ.2 (i3 + 1).toNatClampNeg) (ξ.2 (i3 + 2).toNatClampNeg)) fun v92 =>
                                                          if v91 = v92 then (
                                                            f_L_law_1573 ξ (f_L_law_18 ξ fu) M i3)
                                                          else (
                                                            some (0, M)))
                                                        else (
                                                          if ((ξ.2 i3.toNatClampNeg) &&& 63) = 26 then (
                                                            xgd (xin (i3 + 1) ξ.1) <|
                                                            xb (f_X8_bestPass M (ξ.2 (i3 + 1).toNatClampNeg)) fun v93 =>
                                                            xgd (xin (i3 + 1) ξ.1) <|
                                                            xb (f_X9_bestPass M (ξ.2 (i3 + 1).toNatClampNeg)) fun v94 =>
                                                            if v93 = v94 then (
                                                              f_L_law_1573 ξ (f_L_law_18 ξ fu) M i3)
                                                            else (
                                                              some (0, M)))
                                                          else (
                                                            if ((ξ.2 i3.toNatClampNeg) &&& 63) = 27 then (
                                                              xgd (xin (i3 + 1) ξ.1) <|
                                                              xgd (xin (i3 + 2) ξ.1) <|
                                                              xb (f_X8_permission M (ξ.2 (i3 + 1).toNatClampNeg) (ξ.2 (i3 + 2).toNatClampNeg)) fun v95 =>
                                                              xgd (xin (i3 + 1) ξ.1) <|
                                                              xgd (xin (i3 + 2) ξ.1) <|
                                                              xb (f_X9_permission M (ξ.2 (i3 + 1).toNatClampNeg) (ξ.2 (i3 + 2).toNatClampNeg)) fun v96 =>
                                                              if v95 = v96 then (
                                                                f_L_law_1573 ξ (f_L_law_18 ξ fu) M i3)
                                                              else (
                                                                some (0, M)))
                                                            else (
                                                              if ((ξ.2 i3.toNatClampNeg) &&& 63) = 28 then (
                                                                xgd (xin (i3 + 1) ξ.1) <|
                                                                xgd (xin (i3 + 2) ξ.1) <|
                                                                xb (f_X8_requested M (ξ.2 (i3 + 1).toNatClampNeg) (ξ.2 (i3 + 2).toNatClampNeg)) fun v97 =>
                                                                xgd (xin (i3 + 1) ξ.1) <|
                                                                xgd (xin (i3 + 2) ξ.1) <|
                                                                xb (f_X9_requested M (ξ.2 (i3 + 1).toNatClampNeg) (ξ.2 (i3 + 2).toNatClampNeg)) fun v98 =>
                                                                if v97 = v98 then (
                                                                  f_L_law_1573 ξ (f_L_law_18 ξ fu) M i3)
                                                                else (
                                                                  some (0, M)))
                                                              else (
                                                                if ((ξ.2 i3.toNatClampNeg) &&& 63) = 29 then (
                                                                  xgd (xin (i3 + 1) ξ.1) <|
                                                                  xgd (xin (i3 + 2) ξ.1) <|
                                                                  xgd (xin (i3 + 3) ξ.1) <|
                                                                  xgd (xin (i3 + 4) ξ.1) <|
                                                                  xgd (xin (i3 + 5) ξ.1) <|
                                                                  xb (f_X8_lacking M (ξ.2 (i3 + 1).toNatClampNeg) (ξ.2 (i3 + 2).toNatClampNeg) (ξ.2 (i3 + 3).toNatClampNeg) (ξ.2 (i3 + 4).toNatClampNeg) (ξ.2 (i3 + 5).toNatClampNeg)) fun v99 =>
                                                                  xgd (xin (i3 + 1) ξ.1) <|
                                                                  xgd (xin (i3 + 2) ξ.1) <|
                                                                  xgd (xin (i3 + 3) ξ.1) <|
                                                                  xgd (xin (i3 + 4) ξ.1) <|
                                                                  xgd (xin (i3 + 5) ξ.1) <|
                                                                  xb (f_X9_lacking M (ξ.2 (i3 + 1).toNatClampNeg) (ξ.2 (i3 + 2).toNatClampNeg) (ξ.2 (i3 + 3).toNatClampNeg) (ξ.2 (i3 + 4).toNatClampNeg) (ξ.2 (i3 + 5).toNatClampNeg)) fun v100 =>
                                                                  if v99 = v100 then (
                                                                    f_L_law_1573 ξ (f_L_law_18 ξ fu) M i3)
                                                                  else (
                                                                    some (0, M)))
                                                                else (
                                                                  if ((ξ.2 i3.toNatClampNeg) &&& 63) = 30 then (
                                                                    xgd (xin (i3 + 1) ξ.1) <|
                                                                    xgd (xin (i3 + 2) ξ.1) <|
                                                                    xgd (xin (i3 + 3) ξ.1) <|
                                                                    xgd (xin (i3 + 4) ξ.1) <|
                                                                    xgd (xin (i3 + 5) ξ.1) <|
                                                                    xb (f_X8_fee M (ξ.2 (i3 + 1).toNatClampNeg) (ξ.2 (i3 + 2).toNatClampNeg) (ξ.2 (i3 + 3).toNatClampNeg) (ξ.2 (i3 + 4).toNatClampNeg) (ξ.2 (i3 + 5).toNatClampNeg)) fun v101 =>
                                                                    xgd (xin (i3 + 1) ξ.1) <|
                                                                    xgd (xin (i3 + 2) ξ.1) <|
                                                                    xgd (xin (i3 + 3) ξ.1) <|
                                                                    xgd (xin (i3 + 4) ξ.1) <|
                                                                    xgd (xin (i3 + 5) ξ.1) <|
                                                                    xb (f_X9_fee M (ξ.2 (i3 + 1).toNatClampNeg) (ξ.2 (i3 + 2).toNatClampNeg) (ξ.2 (i3 + 3).toNatClampNeg) (ξ.2 (i3 + 4).toNatClampNeg) (ξ.2 (i3 + 5).toNatClampNeg)) fun v102 =>
                                                                    if v101 = v102 then (
                                                                      f_L_law_1573 ξ (f_L_law_18 ξ fu) M i3)
                                                                    else (
                                                                      some (0, M)))
                                                                  else (
                                                                    if ((ξ.2 i3.toNatClampNeg) &&& 63) = 31 then (
                                                                      xgd (xin (i3 + 1) ξ.1) <|
                                                                      xb (f_X8_income M (ξ.2 (i3 + 1).toNatClampNeg)) fun v103 =>
                                                                      xgd (xin (i3 + 1) ξ.1) <|
                                                                      xb (f_X9_income M (ξ.2 (i3 + 1).toNatClampNeg)) fun v104 =>
                                                                      if v103 = v104 then (
                                                                        f_L_law_1573 ξ (f_L_law_18 ξ fu) M i3)
                                                                      else (
                                                                        some (0, M)))
                                                                    else (
                                                                      if ((ξ.2 i3.toNatClampNeg) &&& 63) = 32 then (
                                                                        xgd (xin (i3 + 1) ξ.1) <|
                                                                        xb (f_X8_paid M (ξ.2 (i3 + 1).toNatClampNeg)) fun v105 =>
                                                                        xgd (xin (i3 + 1) ξ.1) <|
                                                                        xb (f_X9_paid M (ξ.2 (i3 + 1).toNatClampNeg)) fun v106 =>
                                                                        if v105 = v106 then (
                                                                          f_L_law_1573 ξ (f_L_law_18 ξ fu) M i3)
                                                                        else (
                                                                          some (0, M)))
                                                                      else (
                                                                        if ((ξ.2 i3.toNatClampNeg) &&& 63) = 33 then (
                                                                          xgd (xin (i3 + 1) ξ.1) <|
                                                                          xb (f_X8_next M (ξ.2 (i3 + 1).toNatClampNeg)) fun v107 =>
                                                                          xgd (xin (i3 + 1) ξ.1) <|
                                                                          xb (f_X9_next M (ξ.2 (i3 + 1).toNatClampNeg)) fun v108 =>
                                                                          if v107 = v108 then (
                                                                            f_L_law_1573 ξ (f_L_law_18 ξ fu) M i3)
                                                                          else (
                                                                            some (0, M)))
                                                                        else (
                                                                          if ((ξ.2 i3.toNatClampNeg) &&& 63) = 34 then (
                                                                            xgd (xin (i3 + 1) ξ.1) <|
                                                                            xb (f_X8_total M (ξ.2 (i3 + 1).toNatClampNeg)) fun v109 =>
                                                                            xgd (xin (i3 + 1) ξ.1) <|
                                                                            xb (f_X9_total M (ξ.2 (i3 + 1).toNatClampNeg)) fun v110 =>
                                                                            if v109 = v110 then (
                                                                              f_L_law_1573 ξ (f_L_law_18 ξ fu) M i3)
                                                                            else (
                                                                              some (0, M)))
                                                                          else (
                                                                            if ((ξ.2 i3.toNatClampNeg) &&& 63) = 35 then (
                                                                              xgd (xin (i3 + 1) ξ.1) <|
                                                                              xgd (xin (i3 + 2) ξ.1) <|
                                                                              xgd (xin (i3 + 3) ξ.1) <|
                                                                              xgd (xin (i3 + 4) ξ.1) <|
                                                                              xgd (xin (i3 + 5) ξ.1) <|
                                                                              xb (f_X8_heard M (ξ.2 (i3 + 1).toNatClampNeg) (ξ.2 (i3 + 2).toNatClampNeg) (ξ.2 (i3 + 3).toNatClampNeg) (ξ.2 (i3 + 4).toNatClampNeg) (ξ.2 (i3 + 5).toNatClampNeg)) fun v111 =>
                                                                              xgd (xin (i3 + 1) ξ.1) <|
                                                                              xgd (xin (i3 + 2) ξ.1) <|
                                                                              xgd (xin (i3 + 3) ξ.1) <|
                                                                              xgd (xin (i3 + 4) ξ.1) <|
                                                                              xgd (xin (i3 + 5) ξ.1) <|
                                                                              xb (f_X9_heard M (ξ.2 (i3 + 1).toNatClampNeg) (ξ.2 (i3 + 2).toNatClampNeg) (ξ.2 (i3 + 3).toNatClampNeg) (ξ.2 (i3 + 4).toNatClampNeg) (ξ.2 (i3 + 5).toNatClampNeg)) fun v112 =>
                                                                              if v111 = v112 then (
                                                                                f_L_law_1573 ξ (f_L_law_18 ξ fu) M i3)
                                                                              else (
                                                                                some (0, M)))
                                                                            else (
                                                                              if ((ξ.2 i3.toNatClampNeg) &&& 63) = 36 then (
                                                                                xgd (xin (i3 + 1) ξ.1) <|
                                                                                xgd (xin (i3 + 2) ξ.1) <|
                                                                                xb (f_X8_duration M (ξ.2 (i3 + 1).toNatClampNeg) (ξ.2 (i3 + 2).toNatClampNeg)) fun v113 =>
                                                                                xgd (xin (i3 + 1) ξ.1) <|
                                                                                xgd (xin (i3 + 2) ξ.1) <|
                                                                                xb (f_X9_duration M (ξ.2 (i3 + 1).toNatClampNeg) (ξ.2 (i3 + 2).toNatClampNeg)) fun v114 =>
                                                                                if v113 = v114 then (
                                                                                  f_L_law_1573 ξ (f_L_law_18 ξ fu) M i3)
                                                                                else (
                                                                                  some (0, M)))
                                                                              else (
                                                                                if ((ξ.2 i3.toNatClampNeg) &&& 63) = 37 then (
                                                                                  xgd (xin (i3 + 1) ξ.1) <|
                                                                                  xgd (xin (i3 + 2) ξ.1) <|
                                                                                  xb2 (f_X8_planned M (ξ.2 (i3 + 1).toNatClampNeg) (ξ.2 (i3 + 2).toNatClampNeg)) fun v115 M116 =>
                                                                                  xgd (xin (i3 + 1) ξ.1) <|
                                                                                  xgd (xin (i3 + 2) ξ.1) <|
                                                                                  xb2 (f_X9_planned M116 (ξ.2 (i3 + 1).toNatClampNeg) (ξ.2 (i3 + 2).toNatClampNeg)) fun v117 M118 =>
                                                                                  if v115 = v117 then (
                                                                                    f_L_law_1573 ξ (f_L_law_18 ξ fu) M118 i3)
                                                                                  else (
                                                                                    some (0, M118)))
                                                                                else (
                                                                                  if ((ξ.2 i3.toNatClampNeg) &&& 63) = 38 then (
                                                                                    xgd (xin (i3 + 1) ξ.1) <|
                                                                                    xgd (xin (i3 + 2) ξ.1) <|
                                                                                    xb2 (f_X8_fewestPasses M (ξ.2 (i3 + 1).toNatClampNeg) (ξ.2 (i3 + 2).toNatClampNeg)) fun v119 M120 =>
                                                                                    xgd (xin (i3 + 1) ξ.1) <|
                                                                                    xgd (xin (i3 + 2) ξ.1) <|
                                                                                    xb2 (f_X9_fewestPasses M120 (ξ.2 (i3 + 1).toNatClampNeg) (ξ.2 (i3 + 2).toNatClampNeg)) fun v121 M122 =>
                                                                                    if v119 = v121 then (
                                                                                      f_L_law_1573 ξ (f_L_law_18 ξ fu) M122 i3)
                                                                                    else (
                                                                                      some (0, M122)))
                                                                                  else (
                                                                                    f_L_law_1573 ξ (f_L_law_18 ξ fu) M i3))))))))))))))))))))))))))))))))))))))))
set_option maxHeartbeats 1000000 in
theorem x_L_law_18 {ξ : xX} : ∀ (fu : Nat) (M : xM) (i3 : Int32) (z : (Int32 × xM)), f_L_law_18 ξ fu M i3 = some z → X ξ mL_law 18 [.float 3, .ref 0, .ref 149, .int i3] [] SH M 159 15861 (xr (some (.int z.1)) SH z.2) := by
  intro fu
  induction fu with
  | zero => intro M i3 z h; rw [f_L_law_18] at h; cases h
  | succ fu ih =>
    intro M i3 z h
    rw [f_L_law_18] at h
    refine X_iload_n (x := i3) dL_law_18 rfl ?_
    refine X_aload_nF dL_law_19 rfl ?_
    refine X_alen3 dL_law_20 ?_
    refine X_bipush 7 dL_law_21 rfl ?_
    refine X_isub dL_law_23 ?_
    refine X_icmp_gt 1579 dL_law_24 (by decide) h (fun h => ?_) (fun h => ?_)
    · refine X_iconst 1 dL_law_1579 rfl ?_
      exact X_retL (by decide) dL_law_1580 rfl (Nat.le_of_ble_eq_true rfl) (Nat.le_of_ble_eq_true rfl) h
    · refine X_aload_nF dL_law_27 rfl ?_
      refine X_iload_n (x := i3) dL_law_28 rfl ?_
      refine X_iald3 dL_law_29 h (fun h => ?_)
      refine X_bipush 63 dL_law_30 rfl ?_
      refine X_iand dL_law_32 ?_
      by_cases e0 : ((ξ.2 i3.toNatClampNeg) &&& 63) = 0
      · rw [if_pos e0] at h
        refine X_tsIn 0 204 e0 dL_law_33 (by decide) (by decide) rfl (by decide) ?_
        refine X_aload_n (x := 0) dL_law_204 rfl ?_
        refine X_aload_nF dL_law_205 rfl ?_
        refine X_iload_n (x := i3) dL_law_206 rfl ?_
        refine X_iconst 1 dL_law_207 rfl ?_
        refine X_iadd dL_law_208 ?_
        refine X_iald3 dL_law_209 h (fun h => ?_)
        refine X_aload_nF dL_law_210 rfl ?_
        refine X_iload_n (x := i3) dL_law_211 rfl ?_
        refine X_iconst 2 dL_law_212 rfl ?_
        refine X_iadd dL_law_213 ?_
        refine X_iald3 dL_law_214 h (fun h => ?_)
        refine X_aload_nF dL_law_215 rfl ?_
        refine X_iload_n (x := i3) dL_law_216 rfl ?_
        refine X_iconst 3 dL_law_217 rfl ?_
        refine X_iadd dL_law_218 ?_
        refine X_iald3 dL_law_219 h (fun h => ?_)
        refine X_aload_nF dL_law_220 rfl ?_
        refine X_iload_n (x := i3) dL_law_221 rfl ?_
        refine X_iconst 4 dL_law_222 rfl ?_
        refine X_iadd dL_law_223 ?_
        refine X_iald3 dL_law_224 h (fun h => ?_)
        refine X_aload_nF dL_law_225 rfl ?_
        refine X_iload_n (x := i3) dL_law_226 rfl ?_
        refine X_iconst 5 dL_law_227 rfl ?_
        refine X_iadd dL_law_228 ?_
        refine X_iald3 dL_law_229 h (fun h => ?_)
        refine X_vI (μ' := mX8_addCarrier) [.int (ξ.2 (i3 + 1).toNatClampNeg), .int (ξ.2 (i3 + 2).toNatClampNeg), .int (ξ.2 (i3 + 3).toNatClampNeg), .int (ξ.2 (i3 + 4).toNatClampNeg), .int (ξ.2 (i3 + 5).toNatClampNeg)] [] kL_RL_13 kM_X8_addCarrier rv_0 rfl rfl rfl dL_law_230 h (fun _ hv => x_X8_addCarrier hv) (fun v3 M4 h => ?_)
        refine X_aload_n (x := 149) dL_law_233 rfl ?_
        refine X_aload_nF dL_law_234 rfl ?_
        refine X_iload_n (x := i3) dL_law_235 rfl ?_
        refine X_iconst 1 dL_law_236 rfl ?_
        refine X_iadd dL_law_237 ?_
        refine X_iald3 dL_law_238 h (fun h => ?_)
        refine X_aload_nF dL_law_239 rfl ?_
        refine X_iload_n (x := i3) dL_law_240 rfl ?_
        refine X_iconst 2 dL_law_241 rfl ?_
        refine X_iadd dL_law_242 ?_
        refine X_iald3 dL_law_243 h (fun h => ?_)
        refine X_aload_nF dL_law_244 rfl ?_
        refine X_iload_n (x := i3) dL_law_245 rfl ?_
        refine X_iconst 3 dL_law_246 rfl ?_
        refine X_iadd dL_law_247 ?_
        refine X_iald3 dL_law_248 h (fun h => ?_)
        refine X_aload_nF dL_law_249 rfl ?_
        refine X_iload_n (x := i3) dL_law_250 rfl ?_
        refine X_iconst 4 dL_law_251 rfl ?_
        refine X_iadd dL_law_252 ?_
        refine X_iald3 dL_law_253 h (fun h => ?_)
        refine X_aload_nF dL_law_254 rfl ?_
        refine X_iload_n (x := i3) dL_law_255 rfl ?_
        refine X_iconst 5 dL_law_256 rfl ?_
        refine X_iadd dL_law_257 ?_
        refine X_iald3 dL_law_258 h (fun h => ?_)
        refine X_vI (μ' := mX9_addCarrier) [.int (ξ.2 (i3 + 1).toNatClampNeg), .int (ξ.2 (i3 + 2).toNatClampNeg), .int (ξ.2 (i3 + 3).toNatClampNeg), .int (ξ.2 (i3 + 4).toNatClampNeg), .int (ξ.2 (i3 + 5).toNatClampNeg)] [.int v3] kL_RL_17 kM_X9_addCarrier rv_149 rfl rfl rfl dL_law_259 h (fun _ hv => x_X9_addCarrier hv) (fun v5 M6 h => ?_)
        refine X_icmp_eq 1573 dL_law_262 (by decide) h (fun h => ?_) (fun h => ?_)
        · exact x_L_law_1573 ih h
        · refine X_iconst 0 dL_law_265 rfl ?_
          exact X_retL (by decide) dL_law_266 rfl (Nat.le_of_ble_eq_true rfl) (Nat.le_of_ble_eq_true rfl) h
      rw [if_neg e0] at h
      by_cases e1 : ((ξ.2 i3.toNatClampNeg) &&& 63) = 1
      · rw [if_pos e1] at h
        refine X_tsIn 1 267 e1 dL_law_33 (by decide) (by decide) rfl (by decide) ?_
        refine X_aload_n (x := 0) dL_law_267 rfl ?_
        refine X_aload_nF dL_law_268 rfl ?_
        refine X_iload_n (x := i3) dL_law_269 rfl ?_
        refine X_iconst 1 dL_law_270 rfl ?_
        refine X_iadd dL_law_271 ?_
        refine X_iald3 dL_law_272 h (fun h => ?_)
        refine X_aload_nF dL_law_273 rfl ?_
        refine X_iload_n (x := i3) dL_law_274 rfl ?_
        refine X_iconst 2 dL_law_275 rfl ?_
        refine X_iadd dL_law_276 ?_
        refine X_iald3 dL_law_277 h (fun h => ?_)
        refine X_aload_nF dL_law_278 rfl ?_
        refine X_iload_n (x := i3) dL_law_279 rfl ?_
        refine X_iconst 3 dL_law_280 rfl ?_
        refine X_iadd dL_law_281 ?_
        refine X_iald3 dL_law_282 h (fun h => ?_)
        refine X_aload_nF dL_law_283 rfl ?_
        refine X_iload_n (x := i3) dL_law_284 rfl ?_
        refine X_iconst 4 dL_law_285 rfl ?_
        refine X_iadd dL_law_286 ?_
        refine X_iald3 dL_law_287 h (fun h => ?_)
        refine X_vI (μ' := mX8_addMachine) [.int (ξ.2 (i3 + 1).toNatClampNeg), .int (ξ.2 (i3 + 2).toNatClampNeg), .int (ξ.2 (i3 + 3).toNatClampNeg), .int (ξ.2 (i3 + 4).toNatClampNeg)] [] kL_RL_18 kM_X8_addMachine rv_0 rfl rfl rfl dL_law_288 h (fun _ hv => x_X8_addMachine hv) (fun v7 M8 h => ?_)
        refine X_aload_n (x := 149) dL_law_291 rfl ?_
        refine X_aload_nF dL_law_292 rfl ?_
        refine X_iload_n (x := i3) dL_law_293 rfl ?_
        refine X_iconst 1 dL_law_294 rfl ?_
        refine X_iadd dL_law_295 ?_
        refine X_iald3 dL_law_296 h (fun h => ?_)
        refine X_aload_nF dL_law_297 rfl ?_
        refine X_iload_n (x := i3) dL_law_298 rfl ?_
        refine X_iconst 2 dL_law_299 rfl ?_
        refine X_iadd dL_law_300 ?_
        refine X_iald3 dL_law_301 h (fun h => ?_)
        refine X_aload_nF dL_law_302 rfl ?_
        refine X_iload_n (x := i3) dL_law_303 rfl ?_
        refine X_iconst 3 dL_law_304 rfl ?_
        refine X_iadd dL_law_305 ?_
        refine X_iald3 dL_law_306 h (fun h => ?_)
        refine X_aload_nF dL_law_307 rfl ?_
        refine X_iload_n (x := i3) dL_law_308 rfl ?_
        refine X_iconst 4 dL_law_309 rfl ?_
        refine X_iadd dL_law_310 ?_
        refine X_iald3 dL_law_311 h (fun h => ?_)
        refine X_vI (μ' := mX9_addMachine) [.int (ξ.2 (i3 + 1).toNatClampNeg), .int (ξ.2 (i3 + 2).toNatClampNeg), .int (ξ.2 (i3 + 3).toNatClampNeg), .int (ξ.2 (i3 + 4).toNatClampNeg)] [.int v7] kL_RL_22 kM_X9_addMachine rv_149 rfl rfl rfl dL_law_312 h (fun _ hv => x_X9_addMachine hv) (fun v9 M10 h => ?_)
        refine X_icmp_eq 1573 dL_law_315 (by decide) h (fun h => ?_) (fun h => ?_)
        · exact x_L_law_1573 ih h
        · refine X_iconst 0 dL_law_318 rfl ?_
          exact X_retL (by decide) dL_law_319 rfl (Nat.le_of_ble_eq_true rfl) (Nat.le_of_ble_eq_true rfl) h
      rw [if_neg e1] at h
      by_cases e2 : ((ξ.2 i3.toNatClampNeg) &&& 63) = 2
      · rw [if_pos e2] at h
        refine X_tsIn 2 320 e2 dL_law_33 (by decide) (by decide) rfl (by decide) ?_
        refine X_aload_n (x := 0) dL_law_320 rfl ?_
        refine X_aload_nF dL_law_321 rfl ?_
        refine X_iload_n (x := i3) dL_law_322 rfl ?_
        refine X_iconst 1 dL_law_323 rfl ?_
        refine X_iadd dL_law_324 ?_
        refine X_iald3 dL_law_325 h (fun h => ?_)
        refine X_aload_nF dL_law_326 rfl ?_
        refine X_iload_n (x := i3) dL_law_327 rfl ?_
        refine X_iconst 2 dL_law_328 rfl ?_
        refine X_iadd dL_law_329 ?_
        refine X_iald3 dL_law_330 h (fun h => ?_)
        refine X_aload_nF dL_law_331 rfl ?_
        refine X_iload_n (x := i3) dL_law_332 rfl ?_
        refine X_iconst 3 dL_law_333 rfl ?_
        refine X_iadd dL_law_334 ?_
        refine X_iald3 dL_law_335 h (fun h => ?_)
        refine X_aload_nF dL_law_336 rfl ?_
        refine X_iload_n (x := i3) dL_law_337 rfl ?_
        refine X_iconst 4 dL_law_338 rfl ?_
        refine X_iadd dL_law_339 ?_
        refine X_iald3 dL_law_340 h (fun h => ?_)
        refine X_vI (μ' := mX8_addRecording) [.int (ξ.2 (i3 + 1).toNatClampNeg), .int (ξ.2 (i3 + 2).toNatClampNeg), .int (ξ.2 (i3 + 3).toNatClampNeg), .int (ξ.2 (i3 + 4).toNatClampNeg)] [] kL_RL_23 kM_X8_addRecording rv_0 rfl rfl rfl dL_law_341 h (fun _ hv => x_X8_addRecording hv) (fun v11 M12 h => ?_)
        refine X_aload_n (x := 149) dL_law_344 rfl ?_
        refine X_aload_nF dL_law_345 rfl ?_
        refine X_iload_n (x := i3) dL_law_346 rfl ?_
        refine X_iconst 1 dL_law_347 rfl ?_
        refine X_iadd dL_law_348 ?_
        refine X_iald3 dL_law_349 h (fun h => ?_)
        refine X_aload_nF dL_law_350 rfl ?_
        refine X_iload_n (x := i3) dL_law_351 rfl ?_
        refine X_iconst 2 dL_law_352 rfl ?_
        refine X_iadd dL_law_353 ?_
        refine X_iald3 dL_law_354 h (fun h => ?_)
        refine X_aload_nF dL_law_355 rfl ?_
        refine X_iload_n (x := i3) dL_law_356 rfl ?_
        refine X_iconst 3 dL_law_357 rfl ?_
        refine X_iadd dL_law_358 ?_
        refine X_iald3 dL_law_359 h (fun h => ?_)
        refine X_aload_nF dL_law_360 rfl ?_
        refine X_iload_n (x := i3) dL_law_361 rfl ?_
        refine X_iconst 4 dL_law_362 rfl ?_
        refine X_iadd dL_law_363 ?_
        refine X_iald3 dL_law_364 h (fun h => ?_)
        refine X_vI (μ' := mX9_addRecording) [.int (ξ.2 (i3 + 1).toNatClampNeg), .int (ξ.2 (i3 + 2).toNatClampNeg), .int (ξ.2 (i3 + 3).toNatClampNeg), .int (ξ.2 (i3 + 4).toNatClampNeg)] [.int v11] kL_RL_26 kM_X9_addRecording rv_149 rfl rfl rfl dL_law_365 h (fun _ hv => x_X9_addRecording hv) (fun v13 M14 h => ?_)
        refine X_icmp_eq 1573 dL_law_368 (by decide) h (fun h => ?_) (fun h => ?_)
        · exact x_L_law_1573 ih h
        · refine X_iconst 0 dL_law_371 rfl ?_
          exact X_retL (by decide) dL_law_372 rfl (Nat.le_of_ble_eq_true rfl) (Nat.le_of_ble_eq_true rfl) h
      rw [if_neg e2] at h
      by_cases e3 : ((ξ.2 i3.toNatClampNeg) &&& 63) = 3
      · rw [if_pos e3] at h
        refine X_tsIn 3 373 e3 dL_law_33 (by decide) (by decide) rfl (by decide) ?_
        refine X_aload_n (x := 0) dL_law_373 rfl ?_
        refine X_aload_nF dL_law_374 rfl ?_
        refine X_iload_n (x := i3) dL_law_375 rfl ?_
        refine X_iconst 1 dL_law_376 rfl ?_
        refine X_iadd dL_law_377 ?_
        refine X_iald3 dL_law_378 h (fun h => ?_)
        refine X_aload_nF dL_law_379 rfl ?_
        refine X_iload_n (x := i3) dL_law_380 rfl ?_
        refine X_iconst 2 dL_law_381 rfl ?_
        refine X_iadd dL_law_382 ?_
        refine X_iald3 dL_law_383 h (fun h => ?_)
        refine X_aload_nF dL_law_384 rfl ?_
        refine X_iload_n (x := i3) dL_law_385 rfl ?_
        refine X_iconst 3 dL_law_386 rfl ?_
        refine X_iadd dL_law_387 ?_
        refine X_iald3 dL_law_388 h (fun h => ?_)
        refine X_aload_nF dL_law_389 rfl ?_
        refine X_iload_n (x := i3) dL_law_390 rfl ?_
        refine X_iconst 4 dL_law_391 rfl ?_
        refine X_iadd dL_law_392 ?_
        refine X_iald3 dL_law_393 h (fun h => ?_)
        refine X_aload_nF dL_law_394 rfl ?_
        refine X_iload_n (x := i3) dL_law_395 rfl ?_
        refine X_iconst 5 dL_law_396 rfl ?_
        refine X_iadd dL_law_397 ?_
        refine X_iald3 dL_law_398 h (fun h => ?_)
        refine X_vI (μ' := mX8_addPart) [.int (ξ.2 (i3 + 1).toNatClampNeg), .int (ξ.2 (i3 + 2).toNatClampNeg), .int (ξ.2 (i3 + 3).toNatClampNeg), .int (ξ.2 (i3 + 4).toNatClampNeg), .int (ξ.2 (i3 + 5).toNatClampNeg)] [] kL_RL_27 kM_X8_addPart rv_0 rfl rfl rfl dL_law_399 h (fun _ hv => x_X8_addPart hv) (fun v15 M16 h => ?_)
        refine X_aload_n (x := 149) dL_law_402 rfl ?_
        refine X_aload_nF dL_law_403 rfl ?_
        refine X_iload_n (x := i3) dL_law_404 rfl ?_
        refine X_iconst 1 dL_law_405 rfl ?_
        refine X_iadd dL_law_406 ?_
        refine X_iald3 dL_law_407 h (fun h => ?_)
        refine X_aload_nF dL_law_408 rfl ?_
        refine X_iload_n (x := i3) dL_law_409 rfl ?_
        refine X_iconst 2 dL_law_410 rfl ?_
        refine X_iadd dL_law_411 ?_
        refine X_iald3 dL_law_412 h (fun h => ?_)
        refine X_aload_nF dL_law_413 rfl ?_
        refine X_iload_n (x := i3) dL_law_414 rfl ?_
        refine X_iconst 3 dL_law_415 rfl ?_
        refine X_iadd dL_law_416 ?_
        refine X_iald3 dL_law_417 h (fun h => ?_)
        refine X_aload_nF dL_law_418 rfl ?_
        refine X_iload_n (x := i3) dL_law_419 rfl ?_
        refine X_iconst 4 dL_law_420 rfl ?_
        refine X_iadd dL_law_421 ?_
        refine X_iald3 dL_law_422 h (fun h => ?_)
        refine X_aload_nF dL_law_423 rfl ?_
        refine X_iload_n (x := i3) dL_law_424 rfl ?_
        refine X_iconst 5 dL_law_425 rfl ?_
        refine X_iadd dL_law_426 ?_
        refine X_iald3 dL_law_427 h (fun h => ?_)
        refine X_vI (μ' := mX9_addPart) [.int (ξ.2 (i3 + 1).toNatClampNeg), .int (ξ.2 (i3 + 2).toNatClampNeg), .int (ξ.2 (i3 + 3).toNatClampNeg), .int (ξ.2 (i3 + 4).toNatClampNeg), .int (ξ.2 (i3 + 5).toNatClampNeg)] [.int v15] kL_RL_30 kM_X9_addPart rv_149 rfl rfl rfl dL_law_428 h (fun _ hv => x_X9_addPart hv) (fun v17 M18 h => ?_)
        refine X_icmp_eq 1573 dL_law_431 (by decide) h (fun h => ?_) (fun h => ?_)
        · exact x_L_law_1573 ih h
        · refine X_iconst 0 dL_law_434 rfl ?_
          exact X_retL (by decide) dL_law_435 rfl (Nat.le_of_ble_eq_true rfl) (Nat.le_of_ble_eq_true rfl) h
      rw [if_neg e3] at h
      by_cases e4 : ((ξ.2 i3.toNatClampNeg) &&& 63) = 4
      · rw [if_pos e4] at h
        refine X_tsIn 4 436 e4 dL_law_33 (by decide) (by decide) rfl (by decide) ?_
        refine X_aload_n (x := 0) dL_law_436 rfl ?_
        refine X_aload_nF dL_law_437 rfl ?_
        refine X_iload_n (x := i3) dL_law_438 rfl ?_
        refine X_iconst 1 dL_law_439 rfl ?_
        refine X_iadd dL_law_440 ?_
        refine X_iald3 dL_law_441 h (fun h => ?_)
        refine X_aload_nF dL_law_442 rfl ?_
        refine X_iload_n (x := i3) dL_law_443 rfl ?_
        refine X_iconst 2 dL_law_444 rfl ?_
        refine X_iadd dL_law_445 ?_
        refine X_iald3 dL_law_446 h (fun h => ?_)
        refine X_aload_nF dL_law_447 rfl ?_
        refine X_iload_n (x := i3) dL_law_448 rfl ?_
        refine X_iconst 3 dL_law_449 rfl ?_
        refine X_iadd dL_law_450 ?_
        refine X_iald3 dL_law_451 h (fun h => ?_)
        refine X_aload_nF dL_law_452 rfl ?_
        refine X_iload_n (x := i3) dL_law_453 rfl ?_
        refine X_iconst 4 dL_law_454 rfl ?_
        refine X_iadd dL_law_455 ?_
        refine X_iald3 dL_law_456 h (fun h => ?_)
        refine X_vI (μ' := mX8_transfer) [.int (ξ.2 (i3 + 1).toNatClampNeg), .int (ξ.2 (i3 + 2).toNatClampNeg), .int (ξ.2 (i3 + 3).toNatClampNeg), .int (ξ.2 (i3 + 4).toNatClampNeg)] [] kL_RL_31 kM_X8_transfer rv_0 rfl rfl rfl dL_law_457 h (fun _ hv => x_X8_transfer hv) (fun v19 M20 h => ?_)
        refine X_aload_n (x := 149) dL_law_460 rfl ?_
        refine X_aload_nF dL_law_461 rfl ?_
        refine X_iload_n (x := i3) dL_law_462 rfl ?_
        refine X_iconst 1 dL_law_463 rfl ?_
        refine X_iadd dL_law_464 ?_
        refine X_iald3 dL_law_465 h (fun h => ?_)
        refine X_aload_nF dL_law_466 rfl ?_
        refine X_iload_n (x := i3) dL_law_467 rfl ?_
        refine X_iconst 2 dL_law_468 rfl ?_
        refine X_iadd dL_law_469 ?_
        refine X_iald3 dL_law_470 h (fun h => ?_)
        refine X_aload_nF dL_law_471 rfl ?_
        refine X_iload_n (x := i3) dL_law_472 rfl ?_
        refine X_iconst 3 dL_law_473 rfl ?_
        refine X_iadd dL_law_474 ?_
        refine X_iald3 dL_law_475 h (fun h => ?_)
        refine X_aload_nF dL_law_476 rfl ?_
        refine X_iload_n (x := i3) dL_law_477 rfl ?_
        refine X_iconst 4 dL_law_478 rfl ?_
        refine X_iadd dL_law_479 ?_
        refine X_iald3 dL_law_480 h (fun h => ?_)
        refine X_vI (μ' := mX9_transfer) [.int (ξ.2 (i3 + 1).toNatClampNeg), .int (ξ.2 (i3 + 2).toNatClampNeg), .int (ξ.2 (i3 + 3).toNatClampNeg), .int (ξ.2 (i3 + 4).toNatClampNeg)] [.int v19] kL_RL_34 kM_X9_transfer rv_149 rfl rfl rfl dL_law_481 h (fun _ hv => x_X9_transfer hv) (fun v21 M22 h => ?_)
        refine X_icmp_eq 1573 dL_law_484 (by decide) h (fun h => ?_) (fun h => ?_)
        · exact x_L_law_1573 ih h
        · refine X_iconst 0 dL_law_487 rfl ?_
          exact X_retL (by decide) dL_law_488 rfl (Nat.le_of_ble_eq_true rfl) (Nat.le_of_ble_eq_true rfl) h
      rw [if_neg e4] at h
      by_cases e5 : ((ξ.2 i3.toNatClampNeg) &&& 63) = 5
      · rw [if_pos e5] at h
        refine X_tsIn 5 489 e5 dL_law_33 (by decide) (by decide) rfl (by decide) ?_
        refine X_aload_n (x := 0) dL_law_489 rfl ?_
        refine X_aload_nF dL_law_490 rfl ?_
        refine X_iload_n (x := i3) dL_law_491 rfl ?_
        refine X_iconst 1 dL_law_492 rfl ?_
        refine X_iadd dL_law_493 ?_
        refine X_iald3 dL_law_494 h (fun h => ?_)
        refine X_aload_nF dL_law_495 rfl ?_
        refine X_iload_n (x := i3) dL_law_496 rfl ?_
        refine X_iconst 2 dL_law_497 rfl ?_
        refine X_iadd dL_law_498 ?_
        refine X_iald3 dL_law_499 h (fun h => ?_)
        refine X_aload_nF dL_law_500 rfl ?_
        refine X_iload_n (x := i3) dL_law_501 rfl ?_
        refine X_iconst 3 dL_law_502 rfl ?_
        refine X_iadd dL_law_503 ?_
        refine X_iald3 dL_law_504 h (fun h => ?_)
        refine X_aload_nF dL_law_505 rfl ?_
        refine X_iload_n (x := i3) dL_law_506 rfl ?_
        refine X_iconst 4 dL_law_507 rfl ?_
        refine X_iadd dL_law_508 ?_
        refine X_iald3 dL_law_509 h (fun h => ?_)
        refine X_vI (μ' := mX8_permit) [.int (ξ.2 (i3 + 1).toNatClampNeg), .int (ξ.2 (i3 + 2).toNatClampNeg), .int (ξ.2 (i3 + 3).toNatClampNeg), .int (ξ.2 (i3 + 4).toNatClampNeg)] [] kL_RL_35 kM_X8_permit rv_0 rfl rfl rfl dL_law_510 h (fun _ hv => x_X8_permit hv) (fun v23 M24 h => ?_)
        refine X_aload_n (x := 149) dL_law_513 rfl ?_
        refine X_aload_nF dL_law_514 rfl ?_
        refine X_iload_n (x := i3) dL_law_515 rfl ?_
        refine X_iconst 1 dL_law_516 rfl ?_
        refine X_iadd dL_law_517 ?_
        refine X_iald3 dL_law_518 h (fun h => ?_)
        refine X_aload_nF dL_law_519 rfl ?_
        refine X_iload_n (x := i3) dL_law_520 rfl ?_
        refine X_iconst 2 dL_law_521 rfl ?_
        refine X_iadd dL_law_522 ?_
        refine X_iald3 dL_law_523 h (fun h => ?_)
        refine X_aload_nF dL_law_524 rfl ?_
        refine X_iload_n (x := i3) dL_law_525 rfl ?_
        refine X_iconst 3 dL_law_526 rfl ?_
        refine X_iadd dL_law_527 ?_
        refine X_iald3 dL_law_528 h (fun h => ?_)
        refine X_aload_nF dL_law_529 rfl ?_
        refine X_iload_n (x := i3) dL_law_530 rfl ?_
        refine X_iconst 4 dL_law_531 rfl ?_
        refine X_iadd dL_law_532 ?_
        refine X_iald3 dL_law_533 h (fun h => ?_)
        refine X_vI (μ' := mX9_permit) [.int (ξ.2 (i3 + 1).toNatClampNeg), .int (ξ.2 (i3 + 2).toNatClampNeg), .int (ξ.2 (i3 + 3).toNatClampNeg), .int (ξ.2 (i3 + 4).toNatClampNeg)] [.int v23] kL_RL_38 kM_X9_permit rv_149 rfl rfl rfl dL_law_534 h (fun _ hv => x_X9_permit hv) (fun v25 M26 h => ?_)
        refine X_icmp_eq 1573 dL_law_537 (by decide) h (fun h => ?_) (fun h => ?_)
        · exact x_L_law_1573 ih h
        · refine X_iconst 0 dL_law_540 rfl ?_
          exact X_retL (by decide) dL_law_541 rfl (Nat.le_of_ble_eq_true rfl) (Nat.le_of_ble_eq_true rfl) h
      rw [if_neg e5] at h
      by_cases e6 : ((ξ.2 i3.toNatClampNeg) &&& 63) = 6
      · rw [if_pos e6] at h
        refine X_tsIn 6 542 e6 dL_law_33 (by decide) (by decide) rfl (by decide) ?_
        refine X_aload_n (x := 0) dL_law_542 rfl ?_
        refine X_aload_nF dL_law_543 rfl ?_
        refine X_iload_n (x := i3) dL_law_544 rfl ?_
        refine X_iconst 1 dL_law_545 rfl ?_
        refine X_iadd dL_law_546 ?_
        refine X_iald3 dL_law_547 h (fun h => ?_)
        refine X_vI (μ' := mX8_revoke) [.int (ξ.2 (i3 + 1).toNatClampNeg)] [] kL_RL_39 kM_X8_revoke rv_0 rfl rfl rfl dL_law_548 h (fun _ hv => x_X8_revoke hv) (fun v27 M28 h => ?_)
        refine X_aload_n (x := 149) dL_law_551 rfl ?_
        refine X_aload_nF dL_law_552 rfl ?_
        refine X_iload_n (x := i3) dL_law_553 rfl ?_
        refine X_iconst 1 dL_law_554 rfl ?_
        refine X_iadd dL_law_555 ?_
        refine X_iald3 dL_law_556 h (fun h => ?_)
        refine X_vI (μ' := mX9_revoke) [.int (ξ.2 (i3 + 1).toNatClampNeg)] [.int v27] kL_RL_43 kM_X9_revoke rv_149 rfl rfl rfl dL_law_557 h (fun _ hv => x_X9_revoke hv) (fun v29 M30 h => ?_)
        refine X_icmp_eq 1573 dL_law_560 (by decide) h (fun h => ?_) (fun h => ?_)
        · exact x_L_law_1573 ih h
        · refine X_iconst 0 dL_law_563 rfl ?_
          exact X_retL (by decide) dL_law_564 rfl (Nat.le_of_ble_eq_true rfl) (Nat.le_of_ble_eq_true rfl) h
      rw [if_neg e6] at h
      by_cases e7 : ((ξ.2 i3.toNatClampNeg) &&& 63) = 7
      · rw [if_pos e7] at h
        refine X_tsIn 7 565 e7 dL_law_33 (by decide) (by decide) rfl (by decide) ?_
        refine X_aload_n (x := 0) dL_law_565 rfl ?_
        refine X_aload_nF dL_law_566 rfl ?_
        refine X_iload_n (x := i3) dL_law_567 rfl ?_
        refine X_iconst 1 dL_law_568 rfl ?_
        refine X_iadd dL_law_569 ?_
        refine X_iald3 dL_law_570 h (fun h => ?_)
        refine X_aload_nF dL_law_571 rfl ?_
        refine X_iload_n (x := i3) dL_law_572 rfl ?_
        refine X_iconst 2 dL_law_573 rfl ?_
        refine X_iadd dL_law_574 ?_
        refine X_iald3 dL_law_575 h (fun h => ?_)
        refine X_aload_nF dL_law_576 rfl ?_
        refine X_iload_n (x := i3) dL_law_577 rfl ?_
        refine X_iconst 3 dL_law_578 rfl ?_
        refine X_iadd dL_law_579 ?_
        refine X_iald3 dL_law_580 h (fun h => ?_)
        refine X_aload_nF dL_law_581 rfl ?_
        refine X_iload_n (x := i3) dL_law_582 rfl ?_
        refine X_iconst 4 dL_law_583 rfl ?_
        refine X_iadd dL_law_584 ?_
        refine X_iald3 dL_law_585 h (fun h => ?_)
        refine X_aload_nF dL_law_586 rfl ?_
        refine X_iload_n (x := i3) dL_law_587 rfl ?_
        refine X_iconst 5 dL_law_588 rfl ?_
        refine X_iadd dL_law_589 ?_
        refine X_iald3 dL_law_590 h (fun h => ?_)
        refine X_aload_nF dL_law_591 rfl ?_
        refine X_iload_n (x := i3) dL_law_592 rfl ?_
        refine X_bipush 6 dL_law_593 rfl ?_
        refine X_iadd dL_law_595 ?_
        refine X_iald3 dL_law_596 h (fun h => ?_)
        refine X_vI (μ' := mX8_request) [.int (ξ.2 (i3 + 1).toNatClampNeg), .int (ξ.2 (i3 + 2).toNatClampNeg), .int (ξ.2 (i3 + 3).toNatClampNeg), .int (ξ.2 (i3 + 4).toNatClampNeg), .int (ξ.2 (i3 + 5).toNatClampNeg), .int (ξ.2 (i3 + 6).toNatClampNeg)] [] kL_RL_44 kM_X8_request rv_0 rfl rfl rfl dL_law_597 h (fun _ hv => x_X8_request hv) (fun v31 M32 h => ?_)
        refine X_aload_n (x := 149) dL_law_600 rfl ?_
        refine X_aload_nF dL_law_601 rfl ?_
        refine X_iload_n (x := i3) dL_law_602 rfl ?_
        refine X_iconst 1 dL_law_603 rfl ?_
        refine X_iadd dL_law_604 ?_
        refine X_iald3 dL_law_605 h (fun h => ?_)
        refine X_aload_nF dL_law_606 rfl ?_
        refine X_iload_n (x := i3) dL_law_607 rfl ?_
        refine X_iconst 2 dL_law_608 rfl ?_
        refine X_iadd dL_law_609 ?_
        refine X_iald3 dL_law_610 h (fun h => ?_)
        refine X_aload_nF dL_law_611 rfl ?_
        refine X_iload_n (x := i3) dL_law_612 rfl ?_
        refine X_iconst 3 dL_law_613 rfl ?_
        refine X_iadd dL_law_614 ?_
        refine X_iald3 dL_law_615 h (fun h => ?_)
        refine X_aload_nF dL_law_616 rfl ?_
        refine X_iload_n (x := i3) dL_law_617 rfl ?_
        refine X_iconst 4 dL_law_618 rfl ?_
        refine X_iadd dL_law_619 ?_
        refine X_iald3 dL_law_620 h (fun h => ?_)
        refine X_aload_nF dL_law_621 rfl ?_
        refine X_iload_n (x := i3) dL_law_622 rfl ?_
        refine X_iconst 5 dL_law_623 rfl ?_
        refine X_iadd dL_law_624 ?_
        refine X_iald3 dL_law_625 h (fun h => ?_)
        refine X_aload_nF dL_law_626 rfl ?_
        refine X_iload_n (x := i3) dL_law_627 rfl ?_
        refine X_bipush 6 dL_law_628 rfl ?_
        refine X_iadd dL_law_630 ?_
        refine X_iald3 dL_law_631 h (fun h => ?_)
        refine X_vI (μ' := mX9_request) [.int (ξ.2 (i3 + 1).toNatClampNeg), .int (ξ.2 (i3 + 2).toNatClampNeg), .int (ξ.2 (i3 + 3).toNatClampNeg), .int (ξ.2 (i3 + 4).toNatClampNeg), .int (ξ.2 (i3 + 5).toNatClampNeg), .int (ξ.2 (i3 + 6).toNatClampNeg)] [.int v31] kL_RL_48 kM_X9_request rv_149 rfl rfl rfl dL_law_632 h (fun _ hv => x_X9_request hv) (fun v33 M34 h => ?_)
        refine X_icmp_eq 1573 dL_law_635 (by decide) h (fun h => ?_) (fun h => ?_)
        · exact x_L_law_1573 ih h
        · refine X_iconst 0 dL_law_638 rfl ?_
          exact X_retL (by decide) dL_law_639 rfl (Nat.le_of_ble_eq_true rfl) (Nat.le_of_ble_eq_true rfl) h
      rw [if_neg e7] at h
      by_cases e8 : ((ξ.2 i3.toNatClampNeg) &&& 63) = 8
      · rw [if_pos e8] at h
        refine X_tsIn 8 640 e8 dL_law_33 (by decide) (by decide) rfl (by decide) ?_
        refine X_aload_n (x := 0) dL_law_640 rfl ?_
        refine X_aload_nF dL_law_641 rfl ?_
        refine X_iload_n (x := i3) dL_law_642 rfl ?_
        refine X_iconst 1 dL_law_643 rfl ?_
        refine X_iadd dL_law_644 ?_
        refine X_iald3 dL_law_645 h (fun h => ?_)
        refine X_aload_nF dL_law_646 rfl ?_
        refine X_iload_n (x := i3) dL_law_647 rfl ?_
        refine X_iconst 2 dL_law_648 rfl ?_
        refine X_iadd dL_law_649 ?_
        refine X_iald3 dL_law_650 h (fun h => ?_)
        refine X_vI (μ' := mX8_setDue) [.int (ξ.2 (i3 + 1).toNatClampNeg), .int (ξ.2 (i3 + 2).toNatClampNeg)] [] kL_RL_49 kM_X8_setDue rv_0 rfl rfl rfl dL_law_651 h (fun _ hv => x_X8_setDue hv) (fun v35 M36 h => ?_)
        refine X_aload_n (x := 149) dL_law_654 rfl ?_
        refine X_aload_nF dL_law_655 rfl ?_
        refine X_iload_n (x := i3) dL_law_656 rfl ?_
        refine X_iconst 1 dL_law_657 rfl ?_
        refine X_iadd dL_law_658 ?_
        refine X_iald3 dL_law_659 h (fun h => ?_)
        refine X_aload_nF dL_law_660 rfl ?_
        refine X_iload_n (x := i3) dL_law_661 rfl ?_
        refine X_iconst 2 dL_law_662 rfl ?_
        refine X_iadd dL_law_663 ?_
        refine X_iald3 dL_law_664 h (fun h => ?_)
        refine X_vI (μ' := mX9_setDue) [.int (ξ.2 (i3 + 1).toNatClampNeg), .int (ξ.2 (i3 + 2).toNatClampNeg)] [.int v35] kL_RL_53 kM_X9_setDue rv_149 rfl rfl rfl dL_law_665 h (fun _ hv => x_X9_setDue hv) (fun v37 M38 h => ?_)
        refine X_icmp_eq 1573 dL_law_668 (by decide) h (fun h => ?_) (fun h => ?_)
        · exact x_L_law_1573 ih h
        · refine X_iconst 0 dL_law_671 rfl ?_
          exact X_retL (by decide) dL_law_672 rfl (Nat.le_of_ble_eq_true rfl) (Nat.le_of_ble_eq_true rfl) h
      rw [if_neg e8] at h
      by_cases e9 : ((ξ.2 i3.toNatClampNeg) &&& 63) = 9
      · rw [if_pos e9] at h
        refine X_tsIn 9 673 e9 dL_law_33 (by decide) (by decide) rfl (by decide) ?_
        refine X_aload_n (x := 0) dL_law_673 rfl ?_
        refine X_aload_nF dL_law_674 rfl ?_
        refine X_iload_n (x := i3) dL_law_675 rfl ?_
        refine X_iconst 1 dL_law_676 rfl ?_
        refine X_iadd dL_law_677 ?_
        refine X_iald3 dL_law_678 h (fun h => ?_)
        refine X_vI (μ' := mX8_withdraw) [.int (ξ.2 (i3 + 1).toNatClampNeg)] [] kL_RL_54 kM_X8_withdraw rv_0 rfl rfl rfl dL_law_679 h (fun _ hv => x_X8_withdraw hv) (fun v39 M40 h => ?_)
        refine X_aload_n (x := 149) dL_law_682 rfl ?_
        refine X_aload_nF dL_law_683 rfl ?_
        refine X_iload_n (x := i3) dL_law_684 rfl ?_
        refine X_iconst 1 dL_law_685 rfl ?_
        refine X_iadd dL_law_686 ?_
        refine X_iald3 dL_law_687 h (fun h => ?_)
        refine X_vI (μ' := mX9_withdraw) [.int (ξ.2 (i3 + 1).toNatClampNeg)] [.int v39] kL_RL_57 kM_X9_withdraw rv_149 rfl rfl rfl dL_law_688 h (fun _ hv => x_X9_withdraw hv) (fun v41 M42 h => ?_)
        refine X_icmp_eq 1573 dL_law_691 (by decide) h (fun h => ?_) (fun h => ?_)
        · exact x_L_law_1573 ih h
        · refine X_iconst 0 dL_law_694 rfl ?_
          exact X_retL (by decide) dL_law_695 rfl (Nat.le_of_ble_eq_true rfl) (Nat.le_of_ble_eq_true rfl) h
      rw [if_neg e9] at h
      by_cases e10 : ((ξ.2 i3.toNatClampNeg) &&& 63) = 10
      · rw [if_pos e10] at h
        refine X_tsIn 10 696 e10 dL_law_33 (by decide) (by decide) rfl (by decide) ?_
        refine X_aload_n (x := 0) dL_law_696 rfl ?_
        refine X_aload_nF dL_law_697 rfl ?_
        refine X_iload_n (x := i3) dL_law_698 rfl ?_
        refine X_iconst 1 dL_law_699 rfl ?_
        refine X_iadd dL_law_700 ?_
        refine X_iald3 dL_law_701 h (fun h => ?_)
        refine X_vI (μ' := mX8_answer) [.int (ξ.2 (i3 + 1).toNatClampNeg)] [] kL_RL_58 kM_X8_answer rv_0 rfl rfl rfl dL_law_702 h (fun _ hv => x_X8_answer hv) (fun v43 M44 h => ?_)
        refine X_aload_n (x := 149) dL_law_705 rfl ?_
        refine X_aload_nF dL_law_706 rfl ?_
        refine X_iload_n (x := i3) dL_law_707 rfl ?_
        refine X_iconst 1 dL_law_708 rfl ?_
        refine X_iadd dL_law_709 ?_
        refine X_iald3 dL_law_710 h (fun h => ?_)
        refine X_vI (μ' := mX9_answer) [.int (ξ.2 (i3 + 1).toNatClampNeg)] [.int v43] kL_RL_61 kM_X9_answer rv_149 rfl rfl rfl dL_law_711 h (fun _ hv => x_X9_answer hv) (fun v45 M46 h => ?_)
        refine X_icmp_eq 1573 dL_law_714 (by decide) h (fun h => ?_) (fun h => ?_)
        · exact x_L_law_1573 ih h
        · refine X_iconst 0 dL_law_717 rfl ?_
          exact X_retL (by decide) dL_law_718 rfl (Nat.le_of_ble_eq_true rfl) (Nat.le_of_ble_eq_true rfl) h
      rw [if_neg e10] at h
      by_cases e11 : ((ξ.2 i3.toNatClampNeg) &&& 63) = 11
      · rw [if_pos e11] at h
        refine X_tsIn 11 719 e11 dL_law_33 (by decide) (by decide) rfl (by decide) ?_
        refine X_aload_n (x := 0) dL_law_719 rfl ?_
        refine X_aload_nF dL_law_720 rfl ?_
        refine X_iload_n (x := i3) dL_law_721 rfl ?_
        refine X_iconst 1 dL_law_722 rfl ?_
        refine X_iadd dL_law_723 ?_
        refine X_iald3 dL_law_724 h (fun h => ?_)
        refine X_vI (μ' := mX8_passDays) [.int (ξ.2 (i3 + 1).toNatClampNeg)] [] kL_RL_62 kM_X8_passDays rv_0 rfl rfl rfl dL_law_725 h (fun _ hv => x_X8_passDays hv) (fun v47 M48 h => ?_)
        refine X_aload_n (x := 149) dL_law_728 rfl ?_
        refine X_aload_nF dL_law_729 rfl ?_
        refine X_iload_n (x := i3) dL_law_730 rfl ?_
        refine X_iconst 1 dL_law_731 rfl ?_
        refine X_iadd dL_law_732 ?_
        refine X_iald3 dL_law_733 h (fun h => ?_)
        refine X_vI (μ' := mX9_passDays) [.int (ξ.2 (i3 + 1).toNatClampNeg)] [.int v47] kL_RL_65 kM_X9_passDays rv_149 rfl rfl rfl dL_law_734 h (fun _ hv => x_X9_passDays hv) (fun v49 M50 h => ?_)
        refine X_icmp_eq 1573 dL_law_737 (by decide) h (fun h => ?_) (fun h => ?_)
        · exact x_L_law_1573 ih h
        · refine X_iconst 0 dL_law_740 rfl ?_
          exact X_retL (by decide) dL_law_741 rfl (Nat.le_of_ble_eq_true rfl) (Nat.le_of_ble_eq_true rfl) h
      rw [if_neg e11] at h
      by_cases e12 : ((ξ.2 i3.toNatClampNeg) &&& 63) = 12
      · rw [if_pos e12] at h
        refine X_tsIn 12 742 e12 dL_law_33 (by decide) (by decide) rfl (by decide) ?_
        refine X_aload_n (x := 0) dL_law_742 rfl ?_
        refine X_aload_nF dL_law_743 rfl ?_
        refine X_iload_n (x := i3) dL_law_744 rfl ?_
        refine X_iconst 1 dL_law_745 rfl ?_
        refine X_iadd dL_law_746 ?_
        refine X_iald3 dL_law_747 h (fun h => ?_)
        refine X_vI (μ' := mX8_append) [.int (ξ.2 (i3 + 1).toNatClampNeg)] [] kL_RL_66 kM_X8_append rv_0 rfl rfl rfl dL_law_748 h (fun _ hv => x_X8_append hv) (fun v51 M52 h => ?_)
        refine X_aload_n (x := 149) dL_law_751 rfl ?_
        refine X_aload_nF dL_law_752 rfl ?_
        refine X_iload_n (x := i3) dL_law_753 rfl ?_
        refine X_iconst 1 dL_law_754 rfl ?_
        refine X_iadd dL_law_755 ?_
        refine X_iald3 dL_law_756 h (fun h => ?_)
        refine X_vI (μ' := mX9_append) [.int (ξ.2 (i3 + 1).toNatClampNeg)] [.int v51] kL_RL_69 kM_X9_append rv_149 rfl rfl rfl dL_law_757 h (fun _ hv => x_X9_append hv) (fun v53 M54 h => ?_)
        refine X_icmp_eq 1573 dL_law_760 (by decide) h (fun h => ?_) (fun h => ?_)
        · exact x_L_law_1573 ih h
        · refine X_iconst 0 dL_law_763 rfl ?_
          exact X_retL (by decide) dL_law_764 rfl (Nat.le_of_ble_eq_true rfl) (Nat.le_of_ble_eq_true rfl) h
      rw [if_neg e12] at h
      by_cases e13 : ((ξ.2 i3.toNatClampNeg) &&& 63) = 13
      · rw [if_pos e13] at h
        refine X_tsIn 13 765 e13 dL_law_33 (by decide) (by decide) rfl (by decide) ?_
        refine X_aload_n (x := 0) dL_law_765 rfl ?_
        refine X_vI (μ' := mX8_clearText) [] [] kL_RL_70 kM_X8_clearText rv_0 rfl rfl rfl dL_law_766 h (fun _ hv => x_X8_clearText hv) (fun v55 M56 h => ?_)
        refine X_aload_n (x := 149) dL_law_769 rfl ?_
        refine X_vI (μ' := mX9_clearText) [] [.int v55] kL_RL_74 kM_X9_clearText rv_149 rfl rfl rfl dL_law_770 h (fun _ hv => x_X9_clearText hv) (fun v57 M58 h => ?_)
        refine X_icmp_eq 1573 dL_law_773 (by decide) h (fun h => ?_) (fun h => ?_)
        · exact x_L_law_1573 ih h
        · refine X_iconst 0 dL_law_776 rfl ?_
          exact X_retL (by decide) dL_law_777 rfl (Nat.le_of_ble_eq_true rfl) (Nat.le_of_ble_eq_true rfl) h
      rw [if_neg e13] at h
      by_cases e14 : ((ξ.2 i3.toNatClampNeg) &&& 63) = 14
      · rw [if_pos e14] at h
        refine X_tsIn 14 778 e14 dL_law_33 (by decide) (by decide) rfl (by decide) ?_
        refine X_aload_n (x := 0) dL_law_778 rfl ?_
        refine X_vI (μ' := mX8_faultPosition) [] [] kL_RL_75 kM_X8_faultPosition rv_0 rfl rfl rfl dL_law_779 h (fun _ hv => x_X8_faultPosition hv) (fun v59 M60 h => ?_)
        refine X_aload_n (x := 149) dL_law_782 rfl ?_
        refine X_vI (μ' := mX9_faultPosition) [] [.int v59] kL_RL_78 kM_X9_faultPosition rv_149 rfl rfl rfl dL_law_783 h (fun _ hv => x_X9_faultPosition hv) (fun v61 M62 h => ?_)
        refine X_icmp_eq 1573 dL_law_786 (by decide) h (fun h => ?_) (fun h => ?_)
        · exact x_L_law_1573 ih h
        · refine X_iconst 0 dL_law_789 rfl ?_
          exact X_retL (by decide) dL_law_790 rfl (Nat.le_of_ble_eq_true rfl) (Nat.le_of_ble_eq_true rfl) h
      rw [if_neg e14] at h
      by_cases e15 : ((ξ.2 i3.toNatClampNeg) &&& 63) = 15
      · rw [if_pos e15] at h
        refine X_tsIn 15 791 e15 dL_law_33 (by decide) (by decide) rfl (by decide) ?_
        refine X_aload_n (x := 0) dL_law_791 rfl ?_
        refine X_vI (μ' := mX8_run) [] [] kL_RL_79 kM_X8_run rv_0 rfl rfl rfl dL_law_792 h (fun _ hv => x_X8_run hv) (fun v63 M64 h => ?_)
        refine X_aload_n (x := 149) dL_law_795 rfl ?_
        refine X_vI (μ' := mX9_run) [] [.int v63] kL_RL_82 kM_X9_run rv_149 rfl rfl rfl dL_law_796 h (fun _ hv => x_X9_run hv) (fun v65 M66 h => ?_)
        refine X_icmp_eq 1573 dL_law_799 (by decide) h (fun h => ?_) (fun h => ?_)
        · exact x_L_law_1573 ih h
        · refine X_iconst 0 dL_law_802 rfl ?_
          exact X_retL (by decide) dL_law_803 rfl (Nat.le_of_ble_eq_true rfl) (Nat.le_of_ble_eq_true rfl) h
      rw [if_neg e15] at h
      by_cases e16 : ((ξ.2 i3.toNatClampNeg) &&& 63) = 16
      · rw [if_pos e16] at h
        refine X_tsIn 16 804 e16 dL_law_33 (by decide) (by decide) rfl (by decide) ?_
        refine X_aload_n (x := 0) dL_law_804 rfl ?_
        refine X_vI (μ' := mX8_undo) [] [] kL_RL_83 kM_X8_undo rv_0 rfl rfl rfl dL_law_805 h (fun _ hv => x_X8_undo hv) (fun v67 M68 h => ?_)
        refine X_aload_n (x := 149) dL_law_808 rfl ?_
        refine X_vI (μ' := mX9_undo) [] [.int v67] kL_RL_86 kM_X9_undo rv_149 rfl rfl rfl dL_law_809 h (fun _ hv => x_X9_undo hv) (fun v69 M70 h => ?_)
        refine X_icmp_eq 1573 dL_law_812 (by decide) h (fun h => ?_) (fun h => ?_)
        · exact x_L_law_1573 ih h
        · refine X_iconst 0 dL_law_815 rfl ?_
          exact X_retL (by decide) dL_law_816 rfl (Nat.le_of_ble_eq_true rfl) (Nat.le_of_ble_eq_true rfl) h
      rw [if_neg e16] at h
      by_cases e17 : ((ξ.2 i3.toNatClampNeg) &&& 63) = 17
      · rw [if_pos e17] at h
        refine X_tsIn 17 817 e17 dL_law_33 (by decide) (by decide) rfl (by decide) ?_
        refine X_aload_n (x := 0) dL_law_817 rfl ?_
        refine X_aload_nF dL_law_818 rfl ?_
        refine X_iload_n (x := i3) dL_law_819 rfl ?_
        refine X_iconst 1 dL_law_820 rfl ?_
        refine X_iadd dL_law_821 ?_
        refine X_iald3 dL_law_822 h (fun h => ?_)
        refine X_vI (μ' := mX8_save) [.int (ξ.2 (i3 + 1).toNatClampNeg)] [] kL_RL_87 kM_X8_save rv_0 rfl rfl rfl dL_law_823 h (fun _ hv => x_X8_save hv) (fun v71 M72 h => ?_)
        refine X_aload_n (x := 149) dL_law_826 rfl ?_
        refine X_aload_nF dL_law_827 rfl ?_
        refine X_iload_n (x := i3) dL_law_828 rfl ?_
        refine X_iconst 1 dL_law_829 rfl ?_
        refine X_iadd dL_law_830 ?_
        refine X_iald3 dL_law_831 h (fun h => ?_)
        refine X_vI (μ' := mX9_save) [.int (ξ.2 (i3 + 1).toNatClampNeg)] [.int v71] kL_RL_90 kM_X9_save rv_149 rfl rfl rfl dL_law_832 h (fun _ hv => x_X9_save hv) (fun v73 M74 h => ?_)
        refine X_icmp_eq 1573 dL_law_835 (by decide) h (fun h => ?_) (fun h => ?_)
        · exact x_L_law_1573 ih h
        · refine X_iconst 0 dL_law_838 rfl ?_
          exact X_retL (by decide) dL_law_839 rfl (Nat.le_of_ble_eq_true rfl) (Nat.le_of_ble_eq_true rfl) h
      rw [if_neg e17] at h
      by_cases e18 : ((ξ.2 i3.toNatClampNeg) &&& 63) = 18
      · rw [if_pos e18] at h
        refine X_tsIn 18 840 e18 dL_law_33 (by decide) (by decide) rfl (by decide) ?_
        refine X_aload_n (x := 0) dL_law_840 rfl ?_
        refine X_aload_nF dL_law_841 rfl ?_
        refine X_iload_n (x := i3) dL_law_842 rfl ?_
        refine X_iconst 1 dL_law_843 rfl ?_
        refine X_iadd dL_law_844 ?_
        refine X_iald3 dL_law_845 h (fun h => ?_)
        refine X_vI (μ' := mX8_restore) [.int (ξ.2 (i3 + 1).toNatClampNeg)] [] kL_RL_91 kM_X8_restore rv_0 rfl rfl rfl dL_law_846 h (fun _ hv => x_X8_restore hv) (fun v75 M76 h => ?_)
        refine X_aload_n (x := 149) dL_law_849 rfl ?_
        refine X_aload_nF dL_law_850 rfl ?_
        refine X_iload_n (x := i3) dL_law_851 rfl ?_
        refine X_iconst 1 dL_law_852 rfl ?_
        refine X_iadd dL_law_853 ?_
        refine X_iald3 dL_law_854 h (fun h => ?_)
        refine X_vI (μ' := mX9_restore) [.int (ξ.2 (i3 + 1).toNatClampNeg)] [.int v75] kL_RL_94 kM_X9_restore rv_149 rfl rfl rfl dL_law_855 h (fun _ hv => x_X9_restore hv) (fun v77 M78 h => ?_)
        refine X_icmp_eq 1573 dL_law_858 (by decide) h (fun h => ?_) (fun h => ?_)
        · exact x_L_law_1573 ih h
        · refine X_iconst 0 dL_law_861 rfl ?_
          exact X_retL (by decide) dL_law_862 rfl (Nat.le_of_ble_eq_true rfl) (Nat.le_of_ble_eq_true rfl) h
      rw [if_neg e18] at h
      by_cases e19 : ((ξ.2 i3.toNatClampNeg) &&& 63) = 19
      · rw [if_pos e19] at h
        refine X_tsIn 19 863 e19 dL_law_33 (by decide) (by decide) rfl (by decide) ?_
        refine X_aload_n (x := 0) dL_law_863 rfl ?_
        refine X_aload_nF dL_law_864 rfl ?_
        refine X_iload_n (x := i3) dL_law_865 rfl ?_
        refine X_iconst 1 dL_law_866 rfl ?_
        refine X_iadd dL_law_867 ?_
        refine X_iald3 dL_law_868 h (fun h => ?_)
        refine X_aload_nF dL_law_869 rfl ?_
        refine X_iload_n (x := i3) dL_law_870 rfl ?_
        refine X_iconst 2 dL_law_871 rfl ?_
        refine X_iadd dL_law_872 ?_
        refine X_iald3 dL_law_873 h (fun h => ?_)
        refine X_vP (μ' := mX8_carrier) [.int (ξ.2 (i3 + 1).toNatClampNeg), .int (ξ.2 (i3 + 2).toNatClampNeg)] [] kL_RL_95 kM_X8_carrier rv_0 rfl rfl rfl dL_law_874 h (fun _ hv => x_X8_carrier hv) (fun v79 h => ?_)
        refine X_aload_n (x := 149) dL_law_877 rfl ?_
        refine X_aload_nF dL_law_878 rfl ?_
        refine X_iload_n (x := i3) dL_law_879 rfl ?_
        refine X_iconst 1 dL_law_880 rfl ?_
        refine X_iadd dL_law_881 ?_
        refine X_iald3 dL_law_882 h (fun h => ?_)
        refine X_aload_nF dL_law_883 rfl ?_
        refine X_iload_n (x := i3) dL_law_884 rfl ?_
        refine X_iconst 2 dL_law_885 rfl ?_
        refine X_iadd dL_law_886 ?_
        refine X_iald3 dL_law_887 h (fun h => ?_)
        refine X_vP (μ' := mX9_carrier) [.int (ξ.2 (i3 + 1).toNatClampNeg), .int (ξ.2 (i3 + 2).toNatClampNeg)] [.int v79] kL_RL_98 kM_X9_carrier rv_149 rfl rfl rfl dL_law_888 h (fun _ hv => x_X9_carrier hv) (fun v80 h => ?_)
        refine X_icmp_eq 1573 dL_law_891 (by decide) h (fun h => ?_) (fun h => ?_)
        · exact x_L_law_1573 ih h
        · refine X_iconst 0 dL_law_894 rfl ?_
          exact X_retL (by decide) dL_law_895 rfl (Nat.le_of_ble_eq_true rfl) (Nat.le_of_ble_eq_true rfl) h
      rw [if_neg e19] at h
      by_cases e20 : ((ξ.2 i3.toNatClampNeg) &&& 63) = 20
      · rw [if_pos e20] at h
        refine X_tsIn 20 896 e20 dL_law_33 (by decide) (by decide) rfl (by decide) ?_
        refine X_aload_n (x := 0) dL_law_896 rfl ?_
        refine X_aload_nF dL_law_897 rfl ?_
        refine X_iload_n (x := i3) dL_law_898 rfl ?_
        refine X_iconst 1 dL_law_899 rfl ?_
        refine X_iadd dL_law_900 ?_
        refine X_iald3 dL_law_901 h (fun h => ?_)
        refine X_aload_nF dL_law_902 rfl ?_
        refine X_iload_n (x := i3) dL_law_903 rfl ?_
        refine X_iconst 2 dL_law_904 rfl ?_
        refine X_iadd dL_law_905 ?_
        refine X_iald3 dL_law_906 h (fun h => ?_)
        refine X_vP (μ' := mX8_machine) [.int (ξ.2 (i3 + 1).toNatClampNeg), .int (ξ.2 (i3 + 2).toNatClampNeg)] [] kL_RL_99 kM_X8_machine rv_0 rfl rfl rfl dL_law_907 h (fun _ hv => x_X8_machine hv) (fun v81 h => ?_)
        refine X_aload_n (x := 149) dL_law_910 rfl ?_
        refine X_aload_nF dL_law_911 rfl ?_
        refine X_iload_n (x := i3) dL_law_912 rfl ?_
        refine X_iconst 1 dL_law_913 rfl ?_
        refine X_iadd dL_law_914 ?_
        refine X_iald3 dL_law_915 h (fun h => ?_)
        refine X_aload_nF dL_law_916 rfl ?_
        refine X_iload_n (x := i3) dL_law_917 rfl ?_
        refine X_iconst 2 dL_law_918 rfl ?_
        refine X_iadd dL_law_919 ?_
        refine X_iald3 dL_law_920 h (fun h => ?_)
        refine X_vP (μ' := mX9_machine) [.int (ξ.2 (i3 + 1).toNatClampNeg), .int (ξ.2 (i3 + 2).toNatClampNeg)] [.int v81] kL_RL_102 kM_X9_machine rv_149 rfl rfl rfl dL_law_921 h (fun _ hv => x_X9_machine hv) (fun v82 h => ?_)
        refine X_icmp_eq 1573 dL_law_924 (by decide) h (fun h => ?_) (fun h => ?_)
        · exact x_L_law_1573 ih h
        · refine X_iconst 0 dL_law_927 rfl ?_
          exact X_retL (by decide) dL_law_928 rfl (Nat.le_of_ble_eq_true rfl) (Nat.le_of_ble_eq_true rfl) h
      rw [if_neg e20] at h
      by_cases e21 : ((ξ.2 i3.toNatClampNeg) &&& 63) = 21
      · rw [if_pos e21] at h
        refine X_tsIn 21 929 e21 dL_law_33 (by decide) (by decide) rfl (by decide) ?_
        refine X_aload_n (x := 0) dL_law_929 rfl ?_
        refine X_aload_nF dL_law_930 rfl ?_
        refine X_iload_n (x := i3) dL_law_931 rfl ?_
        refine X_iconst 1 dL_law_932 rfl ?_
        refine X_iadd dL_law_933 ?_
        refine X_iald3 dL_law_934 h (fun h => ?_)
        refine X_aload_nF dL_law_935 rfl ?_
        refine X_iload_n (x := i3) dL_law_936 rfl ?_
        refine X_iconst 2 dL_law_937 rfl ?_
        refine X_iadd dL_law_938 ?_
        refine X_iald3 dL_law_939 h (fun h => ?_)
        refine X_vP (μ' := mX8_recording) [.int (ξ.2 (i3 + 1).toNatClampNeg), .int (ξ.2 (i3 + 2).toNatClampNeg)] [] kL_RL_103 kM_X8_recording rv_0 rfl rfl rfl dL_law_940 h (fun _ hv => x_X8_recording hv) (fun v83 h => ?_)
        refine X_aload_n (x := 149) dL_law_943 rfl ?_
        refine X_aload_nF dL_law_944 rfl ?_
        refine X_iload_n (x := i3) dL_law_945 rfl ?_
        refine X_iconst 1 dL_law_946 rfl ?_
        refine X_iadd dL_law_947 ?_
        refine X_iald3 dL_law_948 h (fun h => ?_)
        refine X_aload_nF dL_law_949 rfl ?_
        refine X_iload_n (x := i3) dL_law_950 rfl ?_
        refine X_iconst 2 dL_law_951 rfl ?_
        refine X_iadd dL_law_952 ?_
        refine X_iald3 dL_law_953 h (fun h => ?_)
        refine X_vP (μ' := mX9_recording) [.int (ξ.2 (i3 + 1).toNatClampNeg), .int (ξ.2 (i3 + 2).toNatClampNeg)] [.int v83] kL_RL_106 kM_X9_recording rv_149 rfl rfl rfl dL_law_954 h (fun _ hv => x_X9_recording hv) (fun v84 h => ?_)
        refine X_icmp_eq 1573 dL_law_957 (by decide) h (fun h => ?_) (fun h => ?_)
        · exact x_L_law_1573 ih h
        · refine X_iconst 0 dL_law_960 rfl ?_
          exact X_retL (by decide) dL_law_961 rfl (Nat.le_of_ble_eq_true rfl) (Nat.le_of_ble_eq_true rfl) h
      rw [if_neg e21] at h
      by_cases e22 : ((ξ.2 i3.toNatClampNeg) &&& 63) = 22
      · rw [if_pos e22] at h
        refine X_tsIn 22 962 e22 dL_law_33 (by decide) (by decide) rfl (by decide) ?_
        refine X_aload_n (x := 0) dL_law_962 rfl ?_
        refine X_aload_nF dL_law_963 rfl ?_
        refine X_iload_n (x := i3) dL_law_964 rfl ?_
        refine X_iconst 1 dL_law_965 rfl ?_
        refine X_iadd dL_law_966 ?_
        refine X_iald3 dL_law_967 h (fun h => ?_)
        refine X_aload_nF dL_law_968 rfl ?_
        refine X_iload_n (x := i3) dL_law_969 rfl ?_
        refine X_iconst 2 dL_law_970 rfl ?_
        refine X_iadd dL_law_971 ?_
        refine X_iald3 dL_law_972 h (fun h => ?_)
        refine X_aload_nF dL_law_973 rfl ?_
        refine X_iload_n (x := i3) dL_law_974 rfl ?_
        refine X_iconst 3 dL_law_975 rfl ?_
        refine X_iadd dL_law_976 ?_
        refine X_iald3 dL_law_977 h (fun h => ?_)
        refine X_vP (μ' := mX8_part) [.int (ξ.2 (i3 + 1).toNatClampNeg), .int (ξ.2 (i3 + 2).toNatClampNeg), .int (ξ.2 (i3 + 3).toNatClampNeg)] [] kL_RL_107 kM_X8_part rv_0 rfl rfl rfl dL_law_978 h (fun _ hv => x_X8_part hv) (fun v85 h => ?_)
        refine X_aload_n (x := 149) dL_law_981 rfl ?_
        refine X_aload_nF dL_law_982 rfl ?_
        refine X_iload_n (x := i3) dL_law_983 rfl ?_
        refine X_iconst 1 dL_law_984 rfl ?_
        refine X_iadd dL_law_985 ?_
        refine X_iald3 dL_law_986 h (fun h => ?_)
        refine X_aload_nF dL_law_987 rfl ?_
        refine X_iload_n (x := i3) dL_law_988 rfl ?_
        refine X_iconst 2 dL_law_989 rfl ?_
        refine X_iadd dL_law_990 ?_
        refine X_iald3 dL_law_991 h (fun h => ?_)
        refine X_aload_nF dL_law_992 rfl ?_
        refine X_iload_n (x := i3) dL_law_993 rfl ?_
        refine X_iconst 3 dL_law_994 rfl ?_
        refine X_iadd dL_law_995 ?_
        refine X_iald3 dL_law_996 h (fun h => ?_)
        refine X_vP (μ' := mX9_part) [.int (ξ.2 (i3 + 1).toNatClampNeg), .int (ξ.2 (i3 + 2).toNatClampNeg), .int (ξ.2 (i3 + 3).toNatClampNeg)] [.int v85] kL_RL_111 kM_X9_part rv_149 rfl rfl rfl dL_law_997 h (fun _ hv => x_X9_part hv) (fun v86 h => ?_)
        refine X_icmp_eq 1573 dL_law_1000 (by decide) h (fun h => ?_) (fun h => ?_)
        · exact x_L_law_1573 ih h
        · refine X_iconst 0 dL_law_1003 rfl ?_
          exact X_retL (by decide) dL_law_1004 rfl (Nat.le_of_ble_eq_true rfl) (Nat.le_of_ble_eq_true rfl) h
      rw [if_neg e22] at h
      by_cases e23 : ((ξ.2 i3.toNatClampNeg) &&& 63) = 23
      · rw [if_pos e23] at h
        refine X_tsIn 23 1005 e23 dL_law_33 (by decide) (by decide) rfl (by decide) ?_
        refine X_aload_n (x := 0) dL_law_1005 rfl ?_
        refine X_aload_nF dL_law_1006 rfl ?_
        refine X_iload_n (x := i3) dL_law_1007 rfl ?_
        refine X_iconst 1 dL_law_1008 rfl ?_
        refine X_iadd dL_law_1009 ?_
        refine X_iald3 dL_law_1010 h (fun h => ?_)
        refine X_aload_nF dL_law_1011 rfl ?_
        refine X_iload_n (x := i3) dL_law_1012 rfl ?_
        refine X_iconst 2 dL_law_1013 rfl ?_
        refine X_iadd dL_law_1014 ?_
        refine X_iald3 dL_law_1015 h (fun h => ?_)
        refine X_vP (μ' := mX8_pass) [.int (ξ.2 (i3 + 1).toNatClampNeg), .int (ξ.2 (i3 + 2).toNatClampNeg)] [] kL_RL_112 kM_X8_pass rv_0 rfl rfl rfl dL_law_1016 h (fun _ hv => x_X8_pass hv) (fun v87 h => ?_)
        refine X_aload_n (x := 149) dL_law_1019 rfl ?_
        refine X_aload_nF dL_law_1020 rfl ?_
        refine X_iload_n (x := i3) dL_law_1021 rfl ?_
        refine X_iconst 1 dL_law_1022 rfl ?_
        refine X_iadd dL_law_1023 ?_
        refine X_iald3 dL_law_1024 h (fun h => ?_)
        refine X_aload_nF dL_law_1025 rfl ?_
        refine X_iload_n (x := i3) dL_law_1026 rfl ?_
        refine X_iconst 2 dL_law_1027 rfl ?_
        refine X_iadd dL_law_1028 ?_
        refine X_iald3 dL_law_1029 h (fun h => ?_)
        refine X_vP (μ' := mX9_pass) [.int (ξ.2 (i3 + 1).toNatClampNeg), .int (ξ.2 (i3 + 2).toNatClampNeg)] [.int v87] kL_RL_115 kM_X9_pass rv_149 rfl rfl rfl dL_law_1030 h (fun _ hv => x_X9_pass hv) (fun v88 h => ?_)
        refine X_icmp_eq 1573 dL_law_1033 (by decide) h (fun h => ?_) (fun h => ?_)
        · exact x_L_law_1573 ih h
        · refine X_iconst 0 dL_law_1036 rfl ?_
          exact X_retL (by decide) dL_law_1037 rfl (Nat.le_of_ble_eq_true rfl) (Nat.le_of_ble_eq_true rfl) h
      rw [if_neg e23] at h
      by_cases e24 : ((ξ.2 i3.toNatClampNeg) &&& 63) = 24
      · rw [if_pos e24] at h
        refine X_tsIn 24 1038 e24 dL_law_33 (by decide) (by decide) rfl (by decide) ?_
        refine X_aload_n (x := 0) dL_law_1038 rfl ?_
        refine X_aload_nF dL_law_1039 rfl ?_
        refine X_iload_n (x := i3) dL_law_1040 rfl ?_
        refine X_iconst 1 dL_law_1041 rfl ?_
        refine X_iadd dL_law_1042 ?_
        refine X_iald3 dL_law_1043 h (fun h => ?_)
        refine X_aload_nF dL_law_1044 rfl ?_
        refine X_iload_n (x := i3) dL_law_1045 rfl ?_
        refine X_iconst 2 dL_law_1046 rfl ?_
        refine X_iadd dL_law_1047 ?_
        refine X_iald3 dL_law_1048 h (fun h => ?_)
        refine X_vP (μ' := mX8_captured) [.int (ξ.2 (i3 + 1).toNatClampNeg), .int (ξ.2 (i3 + 2).toNatClampNeg)] [] kL_RL_116 kM_X8_captured rv_0 rfl rfl rfl dL_law_1049 h (fun _ hv => x_X8_captured hv) (fun v89 h => ?_)
        refine X_aload_n (x := 149) dL_law_1052 rfl ?_
        refine X_aload_nF dL_law_1053 rfl ?_
        refine X_iload_n (x := i3) dL_law_1054 rfl ?_
        refine X_iconst 1 dL_law_1055 rfl ?_
        refine X_iadd dL_law_1056 ?_
        refine X_iald3 dL_law_1057 h (fun h => ?_)
        refine X_aload_nF dL_law_1058 rfl ?_
        refine X_iload_n (x := i3) dL_law_1059 rfl ?_
        refine X_iconst 2 dL_law_1060 rfl ?_
        refine X_iadd dL_law_1061 ?_
        refine X_iald3 dL_law_1062 h (fun h => ?_)
        refine X_vP (μ' := mX9_captured) [.int (ξ.2 (i3 + 1).toNatClampNeg), .int (ξ.2 (i3 + 2).toNatClampNeg)] [.int v89] kL_RL_119 kM_X9_captured rv_149 rfl rfl rfl dL_law_1063 h (fun _ hv => x_X9_captured hv) (fun v90 h => ?_)
        refine X_icmp_eq 1573 dL_law_1066 (by decide) h (fun h => ?_) (fun h => ?_)
        · exact x_L_law_1573 ih h
        · refine X_iconst 0 dL_law_1069 rfl ?_
          exact X_retL (by decide) dL_law_1070 rfl (Nat.le_of_ble_eq_true rfl) (Nat.le_of_ble_eq_true rfl) h
      rw [if_neg e24] at h
      by_cases e25 : ((ξ.2 i3.toNatClampNeg) &&& 63) = 25
      · rw [if_pos e25] at h
        refine X_tsIn 25 1071 e25 dL_law_33 (by decide) (by decide) rfl (by decide) ?_
        refine X_aload_n (x := 0) dL_law_1071 rfl ?_
        refine X_aload_nF dL_law_1072 rfl ?_
        refine X_iload_n (x := i3) dL_law_1073 rfl ?_
        refine X_iconst 1 dL_law_1074 rfl ?_
        refine X_iadd dL_law_1075 ?_
        refine X_iald3 dL_law_1076 h (fun h => ?_)
        refine X_aload_nF dL_law_1077 rfl ?_
        refine X_iload_n (x := i3) dL_law_1078 rfl ?_
        refine X_iconst 2 dL_law_1079 rfl ?_
        refine X_iadd dL_law_1080 ?_
        refine X_iald3 dL_law_1081 h (fun h => ?_)
        refine X_vP (μ' := mX8_quality) [.int (ξ.2 (i3 + 1).toNatClampNeg), .int (ξ.2 (i3 + 2).toNatClampNeg)] [] kL_RL_120 kM_X8_quality rv_0 rfl rfl rfl dL_law_1082 h (fun _ hv => x_X8_quality hv) (fun v91 h => ?_)
        refine X_aload_n (x := 149) dL_law_1085 rfl ?_
        refine X_aload_nF dL_law_1086 rfl ?_
        refine X_iload_n (x := i3) dL_law_1087 rfl ?_
        refine X_iconst 1 dL_law_1088 rfl ?_
        refine X_iadd dL_law_1089 ?_
        refine X_iald3 dL_law_1090 h (fun h => ?_)
        refine X_aload_nF dL_law_1091 rfl ?_
        refine X_iload_n (x := i3) dL_law_1092 rfl ?_
        refine X_iconst 2 dL_law_1093 rfl ?_
        refine X_iadd dL_law_1094 ?_
        refine X_iald3 dL_law_1095 h (fun h => ?_)
        refine X_vP (μ' := mX9_quality) [.int (ξ.2 (i3 + 1).toNatClampNeg), .int (ξ.2 (i3 + 2).toNatClampNeg)] [.int v91] kL_RL_123 kM_X9_quality rv_149 rfl rfl rfl dL_law_1096 h (fun _ hv => x_X9_quality hv) (fun v92 h => ?_)
        refine X_icmp_eq 1573 dL_law_1099 (by decide) h (fun h => ?_) (fun h => ?_)
        · exact x_L_law_1573 ih h
        · refine X_iconst 0 dL_law_1102 rfl ?_
          exact X_retL (by decide) dL_law_1103 rfl (Nat.le_of_ble_eq_true rfl) (Nat.le_of_ble_eq_true rfl) h
      rw [if_neg e25] at h
      by_cases e26 : ((ξ.2 i3.toNatClampNeg) &&& 63) = 26
      · rw [if_pos e26] at h
        refine X_tsIn 26 1104 e26 dL_law_33 (by decide) (by decide) rfl (by decide) ?_
        refine X_aload_n (x := 0) dL_law_1104 rfl ?_
        refine X_aload_nF dL_law_1105 rfl ?_
        refine X_iload_n (x := i3) dL_law_1106 rfl ?_
        refine X_iconst 1 dL_law_1107 rfl ?_
        refine X_iadd dL_law_1108 ?_
        refine X_iald3 dL_law_1109 h (fun h => ?_)
        refine X_vP (μ' := mX8_bestPass) [.int (ξ.2 (i3 + 1).toNatClampNeg)] [] kL_RL_124 kM_X8_bestPass rv_0 rfl rfl rfl dL_law_1110 h (fun _ hv => x_X8_bestPass hv) (fun v93 h => ?_)
        refine X_aload_n (x := 149) dL_law_1113 rfl ?_
        refine X_aload_nF dL_law_1114 rfl ?_
        refine X_iload_n (x := i3) dL_law_1115 rfl ?_
        refine X_iconst 1 dL_law_1116 rfl ?_
        refine X_iadd dL_law_1117 ?_
        refine X_iald3 dL_law_1118 h (fun h => ?_)
        refine X_vP (μ' := mX9_bestPass) [.int (ξ.2 (i3 + 1).toNatClampNeg)] [.int v93] kL_RL_127 kM_X9_bestPass rv_149 rfl rfl rfl dL_law_1119 h (fun _ hv => x_X9_bestPass hv) (fun v94 h => ?_)
        refine X_icmp_eq 1573 dL_law_1122 (by decide) h (fun h => ?_) (fun h => ?_)
        · exact x_L_law_1573 ih h
        · refine X_iconst 0 dL_law_1125 rfl ?_
          exact X_retL (by decide) dL_law_1126 rfl (Nat.le_of_ble_eq_true rfl) (Nat.le_of_ble_eq_true rfl) h
      rw [if_neg e26] at h
      by_cases e27 : ((ξ.2 i3.toNatClampNeg) &&& 63) = 27
      · rw [if_pos e27] at h
        refine X_tsIn 27 1127 e27 dL_law_33 (by decide) (by decide) rfl (by decide) ?_
        refine X_aload_n (x := 0) dL_law_1127 rfl ?_
        refine X_aload_nF dL_law_1128 rfl ?_
        refine X_iload_n (x := i3) dL_law_1129 rfl ?_
        refine X_iconst 1 dL_law_1130 rfl ?_
        refine X_iadd dL_law_1131 ?_
        refine X_iald3 dL_law_1132 h (fun h => ?_)
        refine X_aload_nF dL_law_1133 rfl ?_
        refine X_iload_n (x := i3) dL_law_1134 rfl ?_
        refine X_iconst 2 dL_law_1135 rfl ?_
        refine X_iadd dL_law_1136 ?_
        refine X_iald3 dL_law_1137 h (fun h => ?_)
        refine X_vP (μ' := mX8_permission) [.int (ξ.2 (i3 + 1).toNatClampNeg), .int (ξ.2 (i3 + 2).toNatClampNeg)] [] kL_RL_128 kM_X8_permission rv_0 rfl rfl rfl dL_law_1138 h (fun _ hv => x_X8_permission hv) (fun v95 h => ?_)
        refine X_aload_n (x := 149) dL_law_1141 rfl ?_
        refine X_aload_nF dL_law_1142 rfl ?_
        refine X_iload_n (x := i3) dL_law_1143 rfl ?_
        refine X_iconst 1 dL_law_1144 rfl ?_
        refine X_iadd dL_law_1145 ?_
        refine X_iald3 dL_law_1146 h (fun h => ?_)
        refine X_aload_nF dL_law_1147 rfl ?_
        refine X_iload_n (x := i3) dL_law_1148 rfl ?_
        refine X_iconst 2 dL_law_1149 rfl ?_
        refine X_iadd dL_law_1150 ?_
        refine X_iald3 dL_law_1151 h (fun h => ?_)
        refine X_vP (μ' := mX9_permission) [.int (ξ.2 (i3 + 1).toNatClampNeg), .int (ξ.2 (i3 + 2).toNatClampNeg)] [.int v95] kL_RL_131 kM_X9_permission rv_149 rfl rfl rfl dL_law_1152 h (fun _ hv => x_X9_permission hv) (fun v96 h => ?_)
        refine X_icmp_eq 1573 dL_law_1155 (by decide) h (fun h => ?_) (fun h => ?_)
        · exact x_L_law_1573 ih h
        · refine X_iconst 0 dL_law_1158 rfl ?_
          exact X_retL (by decide) dL_law_1159 rfl (Nat.le_of_ble_eq_true rfl) (Nat.le_of_ble_eq_true rfl) h
      rw [if_neg e27] at h
      by_cases e28 : ((ξ.2 i3.toNatClampNeg) &&& 63) = 28
      · rw [if_pos e28] at h
        refine X_tsIn 28 1160 e28 dL_law_33 (by decide) (by decide) rfl (by decide) ?_
        refine X_aload_n (x := 0) dL_law_1160 rfl ?_
        refine X_aload_nF dL_law_1161 rfl ?_
        refine X_iload_n (x := i3) dL_law_1162 rfl ?_
        refine X_iconst 1 dL_law_1163 rfl ?_
        refine X_iadd dL_law_1164 ?_
        refine X_iald3 dL_law_1165 h (fun h => ?_)
        refine X_aload_nF dL_law_1166 rfl ?_
        refine X_iload_n (x := i3) dL_law_1167 rfl ?_
        refine X_iconst 2 dL_law_1168 rfl ?_
        refine X_iadd dL_law_1169 ?_
        refine X_iald3 dL_law_1170 h (fun h => ?_)
        refine X_vP (μ' := mX8_requested) [.int (ξ.2 (i3 + 1).toNatClampNeg), .int (ξ.2 (i3 + 2).toNatClampNeg)] [] kL_RL_132 kM_X8_requested rv_0 rfl rfl rfl dL_law_1171 h (fun _ hv => x_X8_requested hv) (fun v97 h => ?_)
        refine X_aload_n (x := 149) dL_law_1174 rfl ?_
        refine X_aload_nF dL_law_1175 rfl ?_
        refine X_iload_n (x := i3) dL_law_1176 rfl ?_
        refine X_iconst 1 dL_law_1177 rfl ?_
        refine X_iadd dL_law_1178 ?_
        refine X_iald3 dL_law_1179 h (fun h => ?_)
        refine X_aload_nF dL_law_1180 rfl ?_
        refine X_iload_n (x := i3) dL_law_1181 rfl ?_
        refine X_iconst 2 dL_law_1182 rfl ?_
        refine X_iadd dL_law_1183 ?_
        refine X_iald3 dL_law_1184 h (fun h => ?_)
        refine X_vP (μ' := mX9_requested) [.int (ξ.2 (i3 + 1).toNatClampNeg), .int (ξ.2 (i3 + 2).toNatClampNeg)] [.int v97] kL_RL_135 kM_X9_requested rv_149 rfl rfl rfl dL_law_1185 h (fun _ hv => x_X9_requested hv) (fun v98 h => ?_)
        refine X_icmp_eq 1573 dL_law_1188 (by decide) h (fun h => ?_) (fun h => ?_)
        · exact x_L_law_1573 ih h
        · refine X_iconst 0 dL_law_1191 rfl ?_
          exact X_retL (by decide) dL_law_1192 rfl (Nat.le_of_ble_eq_true rfl) (Nat.le_of_ble_eq_true rfl) h
      rw [if_neg e28] at h
      by_cases e29 : ((ξ.2 i3.toNatClampNeg) &&& 63) = 29
      · rw [if_pos e29] at h
        refine X_tsIn 29 1193 e29 dL_law_33 (by decide) (by decide) rfl (by decide) ?_
        refine X_aload_n (x := 0) dL_law_1193 rfl ?_
        refine X_aload_nF dL_law_1194 rfl ?_
        refine X_iload_n (x := i3) dL_law_1195 rfl ?_
        refine X_iconst 1 dL_law_1196 rfl ?_
        refine X_iadd dL_law_1197 ?_
        refine X_iald3 dL_law_1198 h (fun h => ?_)
        refine X_aload_nF dL_law_1199 rfl ?_
        refine X_iload_n (x := i3) dL_law_1200 rfl ?_
        refine X_iconst 2 dL_law_1201 rfl ?_
        refine X_iadd dL_law_1202 ?_
        refine X_iald3 dL_law_1203 h (fun h => ?_)
        refine X_aload_nF dL_law_1204 rfl ?_
        refine X_iload_n (x := i3) dL_law_1205 rfl ?_
        refine X_iconst 3 dL_law_1206 rfl ?_
        refine X_iadd dL_law_1207 ?_
        refine X_iald3 dL_law_1208 h (fun h => ?_)
        refine X_aload_nF dL_law_1209 rfl ?_
        refine X_iload_n (x := i3) dL_law_1210 rfl ?_
        refine X_iconst 4 dL_law_1211 rfl ?_
        refine X_iadd dL_law_1212 ?_
        refine X_iald3 dL_law_1213 h (fun h => ?_)
        refine X_aload_nF dL_law_1214 rfl ?_
        refine X_iload_n (x := i3) dL_law_1215 rfl ?_
        refine X_iconst 5 dL_law_1216 rfl ?_
        refine X_iadd dL_law_1217 ?_
        refine X_iald3 dL_law_1218 h (fun h => ?_)
        refine X_vP (μ' := mX8_lacking) [.int (ξ.2 (i3 + 1).toNatClampNeg), .int (ξ.2 (i3 + 2).toNatClampNeg), .int (ξ.2 (i3 + 3).toNatClampNeg), .int (ξ.2 (i3 + 4).toNatClampNeg), .int (ξ.2 (i3 + 5).toNatClampNeg)] [] kL_RL_136 kM_X8_lacking rv_0 rfl rfl rfl dL_law_1219 h (fun _ hv => x_X8_lacking hv) (fun v99 h => ?_)
        refine X_aload_n (x := 149) dL_law_1222 rfl ?_
        refine X_aload_nF dL_law_1223 rfl ?_
        refine X_iload_n (x := i3) dL_law_1224 rfl ?_
        refine X_iconst 1 dL_law_1225 rfl ?_
        refine X_iadd dL_law_1226 ?_
        refine X_iald3 dL_law_1227 h (fun h => ?_)
        refine X_aload_nF dL_law_1228 rfl ?_
        refine X_iload_n (x := i3) dL_law_1229 rfl ?_
        refine X_iconst 2 dL_law_1230 rfl ?_
        refine X_iadd dL_law_1231 ?_
        refine X_iald3 dL_law_1232 h (fun h => ?_)
        refine X_aload_nF dL_law_1233 rfl ?_
        refine X_iload_n (x := i3) dL_law_1234 rfl ?_
        refine X_iconst 3 dL_law_1235 rfl ?_
        refine X_iadd dL_law_1236 ?_
        refine X_iald3 dL_law_1237 h (fun h => ?_)
        refine X_aload_nF dL_law_1238 rfl ?_
        refine X_iload_n (x := i3) dL_law_1239 rfl ?_
        refine X_iconst 4 dL_law_1240 rfl ?_
        refine X_iadd dL_law_1241 ?_
        refine X_iald3 dL_law_1242 h (fun h => ?_)
        refine X_aload_nF dL_law_1243 rfl ?_
        refine X_iload_n (x := i3) dL_law_1244 rfl ?_
        refine X_iconst 5 dL_law_1245 rfl ?_
        refine X_iadd dL_law_1246 ?_
        refine X_iald3 dL_law_1247 h (fun h => ?_)
        refine X_vP (μ' := mX9_lacking) [.int (ξ.2 (i3 + 1).toNatClampNeg), .int (ξ.2 (i3 + 2).toNatClampNeg), .int (ξ.2 (i3 + 3).toNatClampNeg), .int (ξ.2 (i3 + 4).toNatClampNeg), .int (ξ.2 (i3 + 5).toNatClampNeg)] [.int v99] kL_RL_139 kM_X9_lacking rv_149 rfl rfl rfl dL_law_1248 h (fun _ hv => x_X9_lacking hv) (fun v100 h => ?_)
        refine X_icmp_eq 1573 dL_law_1251 (by decide) h (fun h => ?_) (fun h => ?_)
        · exact x_L_law_1573 ih h
        · refine X_iconst 0 dL_law_1254 rfl ?_
          exact X_retL (by decide) dL_law_1255 rfl (Nat.le_of_ble_eq_true rfl) (Nat.le_of_ble_eq_true rfl) h
      rw [if_neg e29] at h
      by_cases e30 : ((ξ.2 i3.toNatClampNeg) &&& 63) = 30
      · rw [if_pos e30] at h
        refine X_tsIn 30 1256 e30 dL_law_33 (by decide) (by decide) rfl (by decide) ?_
        refine X_aload_n (x := 0) dL_law_1256 rfl ?_
        refine X_aload_nF dL_law_1257 rfl ?_
        refine X_iload_n (x := i3) dL_law_1258 rfl ?_
        refine X_iconst 1 dL_law_1259 rfl ?_
        refine X_iadd dL_law_1260 ?_
        refine X_iald3 dL_law_1261 h (fun h => ?_)
        refine X_aload_nF dL_law_1262 rfl ?_
        refine X_iload_n (x := i3) dL_law_1263 rfl ?_
        refine X_iconst 2 dL_law_1264 rfl ?_
        refine X_iadd dL_law_1265 ?_
        refine X_iald3 dL_law_1266 h (fun h => ?_)
        refine X_aload_nF dL_law_1267 rfl ?_
        refine X_iload_n (x := i3) dL_law_1268 rfl ?_
        refine X_iconst 3 dL_law_1269 rfl ?_
        refine X_iadd dL_law_1270 ?_
        refine X_iald3 dL_law_1271 h (fun h => ?_)
        refine X_aload_nF dL_law_1272 rfl ?_
        refine X_iload_n (x := i3) dL_law_1273 rfl ?_
        refine X_iconst 4 dL_law_1274 rfl ?_
        refine X_iadd dL_law_1275 ?_
        refine X_iald3 dL_law_1276 h (fun h => ?_)
        refine X_aload_nF dL_law_1277 rfl ?_
        refine X_iload_n (x := i3) dL_law_1278 rfl ?_
        refine X_iconst 5 dL_law_1279 rfl ?_
        refine X_iadd dL_law_1280 ?_
        refine X_iald3 dL_law_1281 h (fun h => ?_)
        refine X_vP (μ' := mX8_fee) [.int (ξ.2 (i3 + 1).toNatClampNeg), .int (ξ.2 (i3 + 2).toNatClampNeg), .int (ξ.2 (i3 + 3).toNatClampNeg), .int (ξ.2 (i3 + 4).toNatClampNeg), .int (ξ.2 (i3 + 5).toNatClampNeg)] [] kL_RL_140 kM_X8_fee rv_0 rfl rfl rfl dL_law_1282 h (fun _ hv => x_X8_fee hv) (fun v101 h => ?_)
        refine X_aload_n (x := 149) dL_law_1285 rfl ?_
        refine X_aload_nF dL_law_1286 rfl ?_
        refine X_iload_n (x := i3) dL_law_1287 rfl ?_
        refine X_iconst 1 dL_law_1288 rfl ?_
        refine X_iadd dL_law_1289 ?_
        refine X_iald3 dL_law_1290 h (fun h => ?_)
        refine X_aload_nF dL_law_1291 rfl ?_
        refine X_iload_n (x := i3) dL_law_1292 rfl ?_
        refine X_iconst 2 dL_law_1293 rfl ?_
        refine X_iadd dL_law_1294 ?_
        refine X_iald3 dL_law_1295 h (fun h => ?_)
        refine X_aload_nF dL_law_1296 rfl ?_
        refine X_iload_n (x := i3) dL_law_1297 rfl ?_
        refine X_iconst 3 dL_law_1298 rfl ?_
        refine X_iadd dL_law_1299 ?_
        refine X_iald3 dL_law_1300 h (fun h => ?_)
        refine X_aload_nF dL_law_1301 rfl ?_
        refine X_iload_n (x := i3) dL_law_1302 rfl ?_
        refine X_iconst 4 dL_law_1303 rfl ?_
        refine X_iadd dL_law_1304 ?_
        refine X_iald3 dL_law_1305 h (fun h => ?_)
        refine X_aload_nF dL_law_1306 rfl ?_
        refine X_iload_n (x := i3) dL_law_1307 rfl ?_
        refine X_iconst 5 dL_law_1308 rfl ?_
        refine X_iadd dL_law_1309 ?_
        refine X_iald3 dL_law_1310 h (fun h => ?_)
        refine X_vP (μ' := mX9_fee) [.int (ξ.2 (i3 + 1).toNatClampNeg), .int (ξ.2 (i3 + 2).toNatClampNeg), .int (ξ.2 (i3 + 3).toNatClampNeg), .int (ξ.2 (i3 + 4).toNatClampNeg), .int (ξ.2 (i3 + 5).toNatClampNeg)] [.int v101] kL_RL_143 kM_X9_fee rv_149 rfl rfl rfl dL_law_1311 h (fun _ hv => x_X9_fee hv) (fun v102 h => ?_)
        refine X_icmp_eq 1573 dL_law_1314 (by decide) h (fun h => ?_) (fun h => ?_)
        · exact x_L_law_1573 ih h
        · refine X_iconst 0 dL_law_1317 rfl ?_
          exact X_retL (by decide) dL_law_1318 rfl (Nat.le_of_ble_eq_true rfl) (Nat.le_of_ble_eq_true rfl) h
      rw [if_neg e30] at h
      by_cases e31 : ((ξ.2 i3.toNatClampNeg) &&& 63) = 31
      · rw [if_pos e31] at h
        refine X_tsIn 31 1319 e31 dL_law_33 (by decide) (by decide) rfl (by decide) ?_
        refine X_aload_n (x := 0) dL_law_1319 rfl ?_
        refine X_aload_nF dL_law_1320 rfl ?_
        refine X_iload_n (x := i3) dL_law_1321 rfl ?_
        refine X_iconst 1 dL_law_1322 rfl ?_
        refine X_iadd dL_law_1323 ?_
        refine X_iald3 dL_law_1324 h (fun h => ?_)
        refine X_vP (μ' := mX8_income) [.int (ξ.2 (i3 + 1).toNatClampNeg)] [] kL_RL_144 kM_X8_income rv_0 rfl rfl rfl dL_law_1325 h (fun _ hv => x_X8_income hv) (fun v103 h => ?_)
        refine X_aload_n (x := 149) dL_law_1328 rfl ?_
        refine X_aload_nF dL_law_1329 rfl ?_
        refine X_iload_n (x := i3) dL_law_1330 rfl ?_
        refine X_iconst 1 dL_law_1331 rfl ?_
        refine X_iadd dL_law_1332 ?_
        refine X_iald3 dL_law_1333 h (fun h => ?_)
        refine X_vP (μ' := mX9_income) [.int (ξ.2 (i3 + 1).toNatClampNeg)] [.int v103] kL_RL_147 kM_X9_income rv_149 rfl rfl rfl dL_law_1334 h (fun _ hv => x_X9_income hv) (fun v104 h => ?_)
        refine X_icmp_eq 1573 dL_law_1337 (by decide) h (fun h => ?_) (fun h => ?_)
        · exact x_L_law_1573 ih h
        · refine X_iconst 0 dL_law_1340 rfl ?_
          exact X_retL (by decide) dL_law_1341 rfl (Nat.le_of_ble_eq_true rfl) (Nat.le_of_ble_eq_true rfl) h
      rw [if_neg e31] at h
      by_cases e32 : ((ξ.2 i3.toNatClampNeg) &&& 63) = 32
      · rw [if_pos e32] at h
        refine X_tsIn 32 1342 e32 dL_law_33 (by decide) (by decide) rfl (by decide) ?_
        refine X_aload_n (x := 0) dL_law_1342 rfl ?_
        refine X_aload_nF dL_law_1343 rfl ?_
        refine X_iload_n (x := i3) dL_law_1344 rfl ?_
        refine X_iconst 1 dL_law_1345 rfl ?_
        refine X_iadd dL_law_1346 ?_
        refine X_iald3 dL_law_1347 h (fun h => ?_)
        refine X_vP (μ' := mX8_paid) [.int (ξ.2 (i3 + 1).toNatClampNeg)] [] kL_RL_148 kM_X8_paid rv_0 rfl rfl rfl dL_law_1348 h (fun _ hv => x_X8_paid hv) (fun v105 h => ?_)
        refine X_aload_n (x := 149) dL_law_1351 rfl ?_
        refine X_aload_nF dL_law_1352 rfl ?_
        refine X_iload_n (x := i3) dL_law_1353 rfl ?_
        refine X_iconst 1 dL_law_1354 rfl ?_
        refine X_iadd dL_law_1355 ?_
        refine X_iald3 dL_law_1356 h (fun h => ?_)
        refine X_vP (μ' := mX9_paid) [.int (ξ.2 (i3 + 1).toNatClampNeg)] [.int v105] kL_RL_151 kM_X9_paid rv_149 rfl rfl rfl dL_law_1357 h (fun _ hv => x_X9_paid hv) (fun v106 h => ?_)
        refine X_icmp_eq 1573 dL_law_1360 (by decide) h (fun h => ?_) (fun h => ?_)
        · exact x_L_law_1573 ih h
        · refine X_iconst 0 dL_law_1363 rfl ?_
          exact X_retL (by decide) dL_law_1364 rfl (Nat.le_of_ble_eq_true rfl) (Nat.le_of_ble_eq_true rfl) h
      rw [if_neg e32] at h
      by_cases e33 : ((ξ.2 i3.toNatClampNeg) &&& 63) = 33
      · rw [if_pos e33] at h
        refine X_tsIn 33 1365 e33 dL_law_33 (by decide) (by decide) rfl (by decide) ?_
        refine X_aload_n (x := 0) dL_law_1365 rfl ?_
        refine X_aload_nF dL_law_1366 rfl ?_
        refine X_iload_n (x := i3) dL_law_1367 rfl ?_
        refine X_iconst 1 dL_law_1368 rfl ?_
        refine X_iadd dL_law_1369 ?_
        refine X_iald3 dL_law_1370 h (fun h => ?_)
        refine X_vP (μ' := mX8_next) [.int (ξ.2 (i3 + 1).toNatClampNeg)] [] kL_RL_152 kM_X8_next rv_0 rfl rfl rfl dL_law_1371 h (fun _ hv => x_X8_next hv) (fun v107 h => ?_)
        refine X_aload_n (x := 149) dL_law_1374 rfl ?_
        refine X_aload_nF dL_law_1375 rfl ?_
        refine X_iload_n (x := i3) dL_law_1376 rfl ?_
        refine X_iconst 1 dL_law_1377 rfl ?_
        refine X_iadd dL_law_1378 ?_
        refine X_iald3 dL_law_1379 h (fun h => ?_)
        refine X_vP (μ' := mX9_next) [.int (ξ.2 (i3 + 1).toNatClampNeg)] [.int v107] kL_RL_155 kM_X9_next rv_149 rfl rfl rfl dL_law_1380 h (fun _ hv => x_X9_next hv) (fun v108 h => ?_)
        refine X_icmp_eq 1573 dL_law_1383 (by decide) h (fun h => ?_) (fun h => ?_)
        · exact x_L_law_1573 ih h
        · refine X_iconst 0 dL_law_1386 rfl ?_
          exact X_retL (by decide) dL_law_1387 rfl (Nat.le_of_ble_eq_true rfl) (Nat.le_of_ble_eq_true rfl) h
      rw [if_neg e33] at h
      by_cases e34 : ((ξ.2 i3.toNatClampNeg) &&& 63) = 34
      · rw [if_pos e34] at h
        refine X_tsIn 34 1388 e34 dL_law_33 (by decide) (by decide) rfl (by decide) ?_
        refine X_aload_n (x := 0) dL_law_1388 rfl ?_
        refine X_aload_nF dL_law_1389 rfl ?_
        refine X_iload_n (x := i3) dL_law_1390 rfl ?_
        refine X_iconst 1 dL_law_1391 rfl ?_
        refine X_iadd dL_law_1392 ?_
        refine X_iald3 dL_law_1393 h (fun h => ?_)
        refine X_vP (μ' := mX8_total) [.int (ξ.2 (i3 + 1).toNatClampNeg)] [] kL_RL_156 kM_X8_total rv_0 rfl rfl rfl dL_law_1394 h (fun _ hv => x_X8_total hv) (fun v109 h => ?_)
        refine X_aload_n (x := 149) dL_law_1397 rfl ?_
        refine X_aload_nF dL_law_1398 rfl ?_
        refine X_iload_n (x := i3) dL_law_1399 rfl ?_
        refine X_iconst 1 dL_law_1400 rfl ?_
        refine X_iadd dL_law_1401 ?_
        refine X_iald3 dL_law_1402 h (fun h => ?_)
        refine X_vP (μ' := mX9_total) [.int (ξ.2 (i3 + 1).toNatClampNeg)] [.int v109] kL_RL_159 kM_X9_total rv_149 rfl rfl rfl dL_law_1403 h (fun _ hv => x_X9_total hv) (fun v110 h => ?_)
        refine X_icmp_eq 1573 dL_law_1406 (by decide) h (fun h => ?_) (fun h => ?_)
        · exact x_L_law_1573 ih h
        · refine X_iconst 0 dL_law_1409 rfl ?_
          exact X_retL (by decide) dL_law_1410 rfl (Nat.le_of_ble_eq_true rfl) (Nat.le_of_ble_eq_true rfl) h
      rw [if_neg e34] at h
      by_cases e35 : ((ξ.2 i3.toNatClampNeg) &&& 63) = 35
      · rw [if_pos e35] at h
        refine X_tsIn 35 1411 e35 dL_law_33 (by decide) (by decide) rfl (by decide) ?_
        refine X_aload_n (x := 0) dL_law_1411 rfl ?_
        refine X_aload_nF dL_law_1412 rfl ?_
        refine X_iload_n (x := i3) dL_law_1413 rfl ?_
        refine X_iconst 1 dL_law_1414 rfl ?_
        refine X_iadd dL_law_1415 ?_
        refine X_iald3 dL_law_1416 h (fun h => ?_)
        refine X_aload_nF dL_law_1417 rfl ?_
        refine X_iload_n (x := i3) dL_law_1418 rfl ?_
        refine X_iconst 2 dL_law_1419 rfl ?_
        refine X_iadd dL_law_1420 ?_
        refine X_iald3 dL_law_1421 h (fun h => ?_)
        refine X_aload_nF dL_law_1422 rfl ?_
        refine X_iload_n (x := i3) dL_law_1423 rfl ?_
        refine X_iconst 3 dL_law_1424 rfl ?_
        refine X_iadd dL_law_1425 ?_
        refine X_iald3 dL_law_1426 h (fun h => ?_)
        refine X_aload_nF dL_law_1427 rfl ?_
        refine X_iload_n (x := i3) dL_law_1428 rfl ?_
        refine X_iconst 4 dL_law_1429 rfl ?_
        refine X_iadd dL_law_1430 ?_
        refine X_iald3 dL_law_1431 h (fun h => ?_)
        refine X_aload_nF dL_law_1432 rfl ?_
        refine X_iload_n (x := i3) dL_law_1433 rfl ?_
        refine X_iconst 5 dL_law_1434 rfl ?_
        refine X_iadd dL_law_1435 ?_
        refine X_iald3 dL_law_1436 h (fun h => ?_)
        refine X_vP (μ' := mX8_heard) [.int (ξ.2 (i3 + 1).toNatClampNeg), .int (ξ.2 (i3 + 2).toNatClampNeg), .int (ξ.2 (i3 + 3).toNatClampNeg), .int (ξ.2 (i3 + 4).toNatClampNeg), .int (ξ.2 (i3 + 5).toNatClampNeg)] [] kL_RL_160 kM_X8_heard rv_0 rfl rfl rfl dL_law_1437 h (fun _ hv => x_X8_heard hv) (fun v111 h => ?_)
        refine X_aload_n (x := 149) dL_law_1440 rfl ?_
        refine X_aload_nF dL_law_1441 rfl ?_
        refine X_iload_n (x := i3) dL_law_1442 rfl ?_
        refine X_iconst 1 dL_law_1443 rfl ?_
        refine X_iadd dL_law_1444 ?_
        refine X_iald3 dL_law_1445 h (fun h => ?_)
        refine X_aload_nF dL_law_1446 rfl ?_
        refine X_iload_n (x := i3) dL_law_1447 rfl ?_
        refine X_iconst 2 dL_law_1448 rfl ?_
        refine X_iadd dL_law_1449 ?_
        refine X_iald3 dL_law_1450 h (fun h => ?_)
        refine X_aload_nF dL_law_1451 rfl ?_
        refine X_iload_n (x := i3) dL_law_1452 rfl ?_
        refine X_iconst 3 dL_law_1453 rfl ?_
        refine X_iadd dL_law_1454 ?_
        refine X_iald3 dL_law_1455 h (fun h => ?_)
        refine X_aload_nF dL_law_1456 rfl ?_
        refine X_iload_n (x := i3) dL_law_1457 rfl ?_
        refine X_iconst 4 dL_law_1458 rfl ?_
        refine X_iadd dL_law_1459 ?_
        refine X_iald3 dL_law_1460 h (fun h => ?_)
        refine X_aload_nF dL_law_1461 rfl ?_
        refine X_iload_n (x := i3) dL_law_1462 rfl ?_
        refine X_iconst 5 dL_law_1463 rfl ?_
        refine X_iadd dL_law_1464 ?_
        refine X_iald3 dL_law_1465 h (fun h => ?_)
        refine X_vP (μ' := mX9_heard) [.int (ξ.2 (i3 + 1).toNatClampNeg), .int (ξ.2 (i3 + 2).toNatClampNeg), .int (ξ.2 (i3 + 3).toNatClampNeg), .int (ξ.2 (i3 + 4).toNatClampNeg), .int (ξ.2 (i3 + 5).toNatClampNeg)] [.int v111] kL_RL_163 kM_X9_heard rv_149 rfl rfl rfl dL_law_1466 h (fun _ hv => x_X9_heard hv) (fun v112 h => ?_)
        refine X_icmp_eq 1573 dL_law_1469 (by decide) h (fun h => ?_) (fun h => ?_)
        · exact x_L_law_1573 ih h
        · refine X_iconst 0 dL_law_1472 rfl ?_
          exact X_retL (by decide) dL_law_1473 rfl (Nat.le_of_ble_eq_true rfl) (Nat.le_of_ble_eq_true rfl) h
      rw [if_neg e35] at h
      by_cases e36 : ((ξ.2 i3.toNatClampNeg) &&& 63) = 36
      · rw [if_pos e36] at h
        refine X_tsIn 36 1474 e36 dL_law_33 (by decide) (by decide) rfl (by decide) ?_
        refine X_aload_n (x := 0) dL_law_1474 rfl ?_
        refine X_aload_nF dL_law_1475 rfl ?_
        refine X_iload_n (x := i3) dL_law_1476 rfl ?_
        refine X_iconst 1 dL_law_1477 rfl ?_
        refine X_iadd dL_law_1478 ?_
        refine X_iald3 dL_law_1479 h (fun h => ?_)
        refine X_aload_nF dL_law_1480 rfl ?_
        refine X_iload_n (x := i3) dL_law_1481 rfl ?_
        refine X_iconst 2 dL_law_1482 rfl ?_
        refine X_iadd dL_law_1483 ?_
        refine X_iald3 dL_law_1484 h (fun h => ?_)
        refine X_vP (μ' := mX8_duration) [.int (ξ.2 (i3 + 1).toNatClampNeg), .int (ξ.2 (i3 + 2).toNatClampNeg)] [] kL_RL_164 kM_X8_duration rv_0 rfl rfl rfl dL_law_1485 h (fun _ hv => x_X8_duration hv) (fun v113 h => ?_)
        refine X_aload_n (x := 149) dL_law_1488 rfl ?_
        refine X_aload_nF dL_law_1489 rfl ?_
        refine X_iload_n (x := i3) dL_law_1490 rfl ?_
        refine X_iconst 1 dL_law_1491 rfl ?_
        refine X_iadd dL_law_1492 ?_
        refine X_iald3 dL_law_1493 h (fun h => ?_)
        refine X_aload_nF dL_law_1494 rfl ?_
        refine X_iload_n (x := i3) dL_law_1495 rfl ?_
        refine X_iconst 2 dL_law_1496 rfl ?_
        refine X_iadd dL_law_1497 ?_
        refine X_iald3 dL_law_1498 h (fun h => ?_)
        refine X_vP (μ' := mX9_duration) [.int (ξ.2 (i3 + 1).toNatClampNeg), .int (ξ.2 (i3 + 2).toNatClampNeg)] [.int v113] kL_RL_167 kM_X9_duration rv_149 rfl rfl rfl dL_law_1499 h (fun _ hv => x_X9_duration hv) (fun v114 h => ?_)
        refine X_icmp_eq 1573 dL_law_1502 (by decide) h (fun h => ?_) (fun h => ?_)
        · exact x_L_law_1573 ih h
        · refine X_iconst 0 dL_law_1505 rfl ?_
          exact X_retL (by decide) dL_law_1506 rfl (Nat.le_of_ble_eq_true rfl) (Nat.le_of_ble_eq_true rfl) h
      rw [if_neg e36] at h
      by_cases e37 : ((ξ.2 i3.toNatClampNeg) &&& 63) = 37
      · rw [if_pos e37] at h
        refine X_tsIn 37 1507 e37 dL_law_33 (by decide) (by decide) rfl (by decide) ?_
        refine X_aload_n (x := 0) dL_law_1507 rfl ?_
        refine X_aload_nF dL_law_1508 rfl ?_
        refine X_iload_n (x := i3) dL_law_1509 rfl ?_
        refine X_iconst 1 dL_law_1510 rfl ?_
        refine X_iadd dL_law_1511 ?_
        refine X_iald3 dL_law_1512 h (fun h => ?_)
        refine X_aload_nF dL_law_1513 rfl ?_
        refine X_iload_n (x := i3) dL_law_1514 rfl ?_
        refine X_iconst 2 dL_law_1515 rfl ?_
        refine X_iadd dL_law_1516 ?_
        refine X_iald3 dL_law_1517 h (fun h => ?_)
        refine X_vI (μ' := mX8_planned) [.int (ξ.2 (i3 + 1).toNatClampNeg), .int (ξ.2 (i3 + 2).toNatClampNeg)] [] kL_RL_168 kM_X8_planned rv_0 rfl rfl rfl dL_law_1518 h (fun _ hv => x_X8_planned hv) (fun v115 M116 h => ?_)
        refine X_aload_n (x := 149) dL_law_1521 rfl ?_
        refine X_aload_nF dL_law_1522 rfl ?_
        refine X_iload_n (x := i3) dL_law_1523 rfl ?_
        refine X_iconst 1 dL_law_1524 rfl ?_
        refine X_iadd dL_law_1525 ?_
        refine X_iald3 dL_law_1526 h (fun h => ?_)
        refine X_aload_nF dL_law_1527 rfl ?_
        refine X_iload_n (x := i3) dL_law_1528 rfl ?_
        refine X_iconst 2 dL_law_1529 rfl ?_
        refine X_iadd dL_law_1530 ?_
        refine X_iald3 dL_law_1531 h (fun h => ?_)
        refine X_vI (μ' := mX9_planned) [.int (ξ.2 (i3 + 1).toNatClampNeg), .int (ξ.2 (i3 + 2).toNatClampNeg)] [.int v115] kL_RL_171 kM_X9_planned rv_149 rfl rfl rfl dL_law_1532 h (fun _ hv => x_X9_planned hv) (fun v117 M118 h => ?_)
        refine X_icmp_eq 1573 dL_law_1535 (by decide) h (fun h => ?_) (fun h => ?_)
        · exact x_L_law_1573 ih h
        · refine X_iconst 0 dL_law_1538 rfl ?_
          exact X_retL (by decide) dL_law_1539 rfl (Nat.le_of_ble_eq_true rfl) (Nat.le_of_ble_eq_true rfl) h
      rw [if_neg e37] at h
      by_cases e38 : ((ξ.2 i3.toNatClampNeg) &&& 63) = 38
      · rw [if_pos e38] at h
        refine X_tsIn 38 1540 e38 dL_law_33 (by decide) (by decide) rfl (by decide) ?_
        refine X_aload_n (x := 0) dL_law_1540 rfl ?_
        refine X_aload_nF dL_law_1541 rfl ?_
        refine X_iload_n (x := i3) dL_law_1542 rfl ?_
        refine X_iconst 1 dL_law_1543 rfl ?_
        refine X_iadd dL_law_1544 ?_
        refine X_iald3 dL_law_1545 h (fun h => ?_)
        refine X_aload_nF dL_law_1546 rfl ?_
        refine X_iload_n (x := i3) dL_law_1547 rfl ?_
        refine X_iconst 2 dL_law_1548 rfl ?_
        refine X_iadd dL_law_1549 ?_
        refine X_iald3 dL_law_1550 h (fun h => ?_)
        refine X_vI (μ' := mX8_fewestPasses) [.int (ξ.2 (i3 + 1).toNatClampNeg), .int (ξ.2 (i3 + 2).toNatClampNeg)] [] kL_RL_172 kM_X8_fewestPasses rv_0 rfl rfl rfl dL_law_1551 h (fun _ hv => x_X8_fewestPasses hv) (fun v119 M120 h => ?_)
        refine X_aload_n (x := 149) dL_law_1554 rfl ?_
        refine X_aload_nF dL_law_1555 rfl ?_
        refine X_iload_n (x := i3) dL_law_1556 rfl ?_
        refine X_iconst 1 dL_law_1557 rfl ?_
        refine X_iadd dL_law_1558 ?_
        refine X_iald3 dL_law_1559 h (fun h => ?_)
        refine X_aload_nF dL_law_1560 rfl ?_
        refine X_iload_n (x := i3) dL_law_1561 rfl ?_
        refine X_iconst 2 dL_law_1562 rfl ?_
        refine X_iadd dL_law_1563 ?_
        refine X_iald3 dL_law_1564 h (fun h => ?_)
        refine X_vI (μ' := mX9_fewestPasses) [.int (ξ.2 (i3 + 1).toNatClampNeg), .int (ξ.2 (i3 + 2).toNatClampNeg)] [.int v119] kL_RL_175 kM_X9_fewestPasses rv_149 rfl rfl rfl dL_law_1565 h (fun _ hv => x_X9_fewestPasses hv) (fun v121 M122 h => ?_)
        refine X_icmp_eq 1573 dL_law_1568 (by decide) h (fun h => ?_) (fun h => ?_)
        · exact x_L_law_1573 ih h
        · refine X_iconst 0 dL_law_1571 rfl ?_
          exact X_retL (by decide) dL_law_1572 rfl (Nat.le_of_ble_eq_true rfl) (Nat.le_of_ble_eq_true rfl) h
      rw [if_neg e38] at h
      refine X_tsOut 1573 dL_law_33 (xsw_out (lo := 0) 39 (lt_s (lt_s (lt_s (lt_s (lt_s (lt_s (lt_s (lt_s (lt_s (lt_s (lt_s (lt_s (lt_s (lt_s (lt_s (lt_s (lt_s (lt_s (lt_s (lt_s (lt_s (lt_s (lt_s (lt_s (lt_s (lt_s (lt_s (lt_s (lt_s (lt_s (lt_s (lt_s (lt_s (lt_s (lt_s (lt_s (lt_s (lt_s (lt_s lt_0 (xne (c := 0) rfl e0)) (xne (c := 1) rfl e1)) (xne (c := 2) rfl e2)) (xne (c := 3) rfl e3)) (xne (c := 4) rfl e4)) (xne (c := 5) rfl e5)) (xne (c := 6) rfl e6)) (xne (c := 7) rfl e7)) (xne (c := 8) rfl e8)) (xne (c := 9) rfl e9)) (xne (c := 10) rfl e10)) (xne (c := 11) rfl e11)) (xne (c := 12) rfl e12)) (xne (c := 13) rfl e13)) (xne (c := 14) rfl e14)) (xne (c := 15) rfl e15)) (xne (c := 16) rfl e16)) (xne (c := 17) rfl e17)) (xne (c := 18) rfl e18)) (xne (c := 19) rfl e19)) (xne (c := 20) rfl e20)) (xne (c := 21) rfl e21)) (xne (c := 22) rfl e22)) (xne (c := 23) rfl e23)) (xne (c := 24) rfl e24)) (xne (c := 25) rfl e25)) (xne (c := 26) rfl e26)) (xne (c := 27) rfl e27)) (xne (c := 28) rfl e28)) (xne (c := 29) rfl e29)) (xne (c := 30) rfl e30)) (xne (c := 31) rfl e31)) (xne (c := 32) rfl e32)) (xne (c := 33) rfl e33)) (xne (c := 34) rfl e34)) (xne (c := 35) rfl e35)) (xne (c := 36) rfl e36)) (xne (c := 37) rfl e37)) (xne (c := 38) rfl e38))) (by decide) ?_
      exact x_L_law_1573 ih h
