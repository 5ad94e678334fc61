/-! undo, the slots, the start -/
theorem cl_undo0 {V : Rw} {M : xM} {S : Option Rw} (hR : Rk V M [] S) : f_X8_undo M = some (-3, M) := by
  obtain ⟨hv, hz, ⟨hc5, e, he, hl, e2, e1, hT⟩, hS⟩ := hR
  unfold f_X8_undo
  rw [e2, if_pos (show nI ([] : List Rw).length = (0 : Int32) from rfl)]
theorem cl_undo {V W : Rw} {M : xM} {T : List Rw} {S : Option Rw} (hR : Rk V M (W :: T) S) : ∃ M1, f_X8_undo M = some (nI T.length, M1) ∧ T.length < 5 ∧ Rk W M1 T S := by
  obtain ⟨hv, hz, ⟨hc5, e, he, hl, a4, a5, hT⟩, hS⟩ := hR
  have hc := hv.2.2.1
  generalize hj : T.length = j
  have hl2 : (W :: T).length = j + 1 := by simp [hj]
  rw [hl2] at hl a4
  unfold f_X8_undo
  have hne : ¬ nI (j + 1) = 0 := by rw [li_0, eq_n (by omega) (by decide)]; omega
  have hx : f_X1_takeBack M = f_X1_takeBack_18 M (nI ((e + 4) % 5)) := by
    unfold f_X1_takeBack
    rw [a5]
    by_cases e0 : e = 0
    · subst e0; rw [if_pos (by decide)]; rfl
    · obtain ⟨k, rfl⟩ : ∃ k, e = k + 1 := ⟨e - 1, by omega⟩
      rw [if_neg (by rw [li_0, le_n (by omega) (by decide)]; omega), nI_pred, show (k + 1 + 4) % 5 = k by omega]
  have he' : (e + 4) % 5 < 5 := Nat.mod_lt _ (by decide)
  obtain ⟨M0, e0⟩ : ∃ M0, M0 = xw (xw M 18 1 (nI ((e + 4) % 5))) 18 2 (nI j) := ⟨_, rfl⟩
  have m0 : ∀ k, k ≠ 18 → M0 k = M k := fun k hk => by rw [e0, xw_ne hk, xw_ne hk]
  have hb : 20 ≤ hB ((e + 4) % 5) ∧ hB ((e + 4) % 5) + 16 ≤ 104 := by unfold hB; omega
  obtain ⟨M1, c1, c2⟩ := cp_e (b := 1) (o := hB ((e + 4) % 5)) (M := M0) (by omega)
  have m1 : ∀ k, 18 ≤ k → M1 k = M0 k := fun k hk => c2.2.2.2.2.2 k (by omega)
  obtain ⟨hEj, hzj⟩ := hT 0 W rfl
  rw [show (e + 4 - 0) % 5 = (e + 4) % 5 from rfl] at hEj
  have hE0 : Enc W M0 (hB ((e + 4) % 5)) := Enc_of hEj (Lk_same (fun k b1 b2 => m0 k (by omega)))
  have hE1 : Enc W M1 1 := Enc_of hE0 (Lk_cp c2)
  have hC1 : EncCol M1 1 := Col_cp c2 (Col_same (fun k b1 b2 => m0 k (by omega)) hc) (Col_same (fun k b1 b2 => m0 k (by omega)) (hc5 _ he'))
  have v2 : M1 18 2 = nI j := by rw [m1 18 (by decide), e0, xw_same]
  have v1 : M1 18 1 = nI ((e + 4) % 5) := by rw [m1 18 (by decide), e0, xw_o (by decide), xw_same]
  have m9 : ∀ k, 19 ≤ k → M1 k = M k := fun k hk => (m1 k (by omega)).trans (m0 k (by omega))
  refine ⟨M1, ?_, by omega, ⟨trivial, hE1, hC1, trivial⟩, hzj, ⟨fun i hi => Col_same (fun k b1 b2 => m9 k (by unfold hB at b1; omega)) (hc5 i hi), (e + 4) % 5, he', by omega, by rw [hj]; exact v2, v1, fun i U hi => ?_⟩, SlT_fr hS (fun k b1 b2 => m9 k (by omega))⟩
  · rw [a4, if_neg hne, hx]
    unfold f_X1_takeBack_18
    have w : xw (xw M 18 1 (nI ((e + 4) % 5))) 18 2 (xmx ((xw M 18 1 (nI ((e + 4) % 5)) 18 2) - 1) 0) = M0 := by
      rw [e0, xw_o (by decide), a4, nI_pred]
      congr 1
      unfold xmx
      rw [if_neg (by rw [li_0, lt_n (by omega) (by decide)]; omega)]
    rw [xl_n, xl_n, w]
    have w1 : M0 18 1 = nI ((e + 4) % 5) := by rw [e0, xw_o (by decide), xw_same]
    rw [w1, stateAt_e he', xb_n]
    show (xb (xgd (xStaB (hB ((e + 4) % 5))) _) _) = _
    rw [xgd_t _ (xStaB_e he'), c1, xb_n, xb_n, v2]
  · have hi2 : (W :: T)[i + 1]? = some U := by simpa using hi
    obtain ⟨b1, b2⟩ := hT (i + 1) U hi2
    have hil : i < T.length := (List.getElem?_eq_some_iff.mp hi).1
    have hm : (e + 4 - (i + 1)) % 5 < 5 := Nat.mod_lt _ (by omega)
    rw [show ((e + 4) % 5 + 4 - i) % 5 = (e + 4 - (i + 1)) % 5 by omega]
    exact ⟨Enc_of b1 (Lk_same (fun k q1 q2 => m9 k (by unfold hB at q1; omega))), b2⟩
theorem cl_save {V : Rw} {M : xM} {T : List Rw} {S : Option Rw} (hR : Rk V M T S) : ∃ M1, f_X8_save M 1 = some (V 0, M1) ∧ Rk V M1 T (some V) := by
  obtain ⟨hv, hz, hT, hS⟩ := hR
  have hE := hv.2.1
  unfold f_X8_save
  obtain ⟨M1, c1, c2⟩ := cp_e (b := 124) (o := 1) (M := M) (by omega)
  have m1 : ∀ k, k < 124 ∨ 140 < k → M1 k = M k := fun k hk => c2.2.2.2.2.2 k (by omega)
  obtain ⟨M3, e3⟩ : ∃ M3, M3 = xw M1 123 1 1 := ⟨_, rfl⟩
  have m3 : ∀ k, k < 123 ∨ 140 < k → M3 k = M k := fun k hk => by rw [e3, xw_ne (by omega)]; exact m1 k (by omega)
  have h8 : M3 1 8 = V 0 := by
    rw [m3 1 (by omega)]
    exact hE.1.2.2.2.2.2.2.2.2.2.2.2.1
  have sameS : ∀ k, 124 ≤ k → k ≤ 140 → M3 k = M1 k := fun k b1 b2 => by rw [e3, xw_ne (by omega)]
  refine ⟨M3, ?_, ⟨trivial, Enc_of hE (Lk_same (fun k _ _ => m3 k (by omega))), Col_same (fun k _ _ => m3 k (by omega)) hv.2.2.1, trivial⟩, hz, HsT_fr hT (fun k b1 b2 => m3 k (by omega)), Col_same sameS (Col_cp c2 hS.1 hv.2.2.1), fun W hW => ?_⟩
  · obtain ⟨s1, s2⟩ := slot_e (s := 1) (by decide) M
    have s1' : f_X8_slotOf M 1 = some (some 123) := s1
    simp only [s1', xb_n]
    show xgd (xSloB (105 + 18 * 1)) _ = _
    rw [s2, xgd_n]
    show xb (f_X5_copyFrom 124 1 M) _ = _
    rw [c1, xb_n, xl_n, ← e3, h8]
  · cases hW
    exact ⟨by rw [e3, xw_same], Enc_of (Enc_of hE (Lk_cp c2)) (Lk_same sameS), hz⟩
theorem cl_rest0 {M : xM} (h : M 105 1 = 0) : f_X8_restore M 0 = some (-3, M) := by
  unfold f_X8_restore
  obtain ⟨s1, s2⟩ := slot_e (s := 0) (by decide) M
  have s1' : f_X8_slotOf M 0 = some (some 105) := s1
  simp only [s1', xb_n]
  show xgd (xSloB (105 + 18 * 0)) _ = _
  rw [s2, xgd_n, h, if_pos rfl]
theorem cl_restore {V W : Rw} {M : xM} {T : List Rw} (hR : Rk V M T (some W)) : ∃ M1, f_X8_restore M 1 = some (W 0, M1) ∧ Rk W M1 (psh V T) (some W) := by
  obtain ⟨Mk, k1, k2, k3, k4, k5⟩ := keep_T hR
  obtain ⟨q2, -, -⟩ := hR.2.2.2.2 W rfl
  obtain ⟨-, q3, q4⟩ := k5.2 W rfl
  obtain ⟨M1, c1, c2⟩ := cp_e (b := 1) (o := 124) (M := Mk) (by omega)
  have m1 : ∀ k, 18 ≤ k → M1 k = Mk k := fun k hk => c2.2.2.2.2.2 k (by omega)
  have hE1 : Enc W M1 1 := Enc_of q3 (Lk_cp c2)
  have hC1 : EncCol M1 1 := Col_cp c2 k2.2.2.1 k5.1
  refine ⟨M1, ?_, Rk_of (V := V) ⟨trivial, hE1, hC1, trivial⟩ q4 m1 k4 k5⟩
  unfold f_X8_restore
  obtain ⟨s1, s2⟩ := slot_e (s := 1) (by decide) M
  have s1' : f_X8_slotOf M 1 = some (some 123) := s1
  simp only [s1', xb_n]
  show xgd (xSloB (105 + 18 * 1)) _ = _
  rw [s2, xgd_n, q2, if_neg (by decide), k1, xb_n]
  show xb (f_X5_copyFrom 1 124 Mk) _ = _
  rw [c1, xb_n]
  congr 2
  exact hE1.1.2.2.2.2.2.2.2.2.2.2.2.1
theorem mz_cells : ∀ k : Fin 18, k.val % 2 = 1 → 3 ≤ k.val → cL_80.all (fun e => !(e.1 == k.val)) = true := by decide +kernel
def colB (b : Nat) : Bool := decide (mOf cL_80 (b + 1) 1 = nI 7) && decide (mOf cL_80 (b + 3) 1 = nI 6) && decide (mOf cL_80 (b + 5) 1 = nI 6) && decide (mOf cL_80 (b + 7) 1 = nI 4) && decide (mOf cL_80 (b + 9) 1 = nI 11) && decide (mOf cL_80 (b + 11) 1 = nI 5) && decide (mOf cL_80 (b + 13) 1 = nI 10) && decide (mOf cL_80 (b + 15) 1 = nI 2) && decide (mOf cL_80 (b + 7) 2 = nI 64) && decide (mOf cL_80 (b + 15) 2 = nI 8)
theorem col_of {b : Nat} (h : colB b = true) : EncCol (mOf cL_80) b := by
  unfold colB at h
  simp only [Bool.and_eq_true, decide_eq_true_eq] at h
  obtain ⟨⟨⟨⟨⟨⟨⟨⟨⟨a0, a1⟩, a2⟩, a3⟩, a4⟩, a5⟩, a6⟩, a7⟩, a8⟩, a9⟩ := h
  exact ⟨a0, a1, a2, a3, a4, a5, a6, a7, a8, a9⟩
theorem col_1 : colB 1 = true := by decide +kernel
theorem col_h : ∀ j : Fin 5, colB (hB j.val) = true := by decide +kernel
theorem col_s : ∀ s : Fin 2, colB (sB s.val) = true := by decide +kernel
theorem m_0 : mOf cL_80 1 8 = 0 ∧ mOf cL_80 1 9 = 0 ∧ mOf cL_80 2 2 = 0 ∧ mOf cL_80 4 2 = 0 ∧ mOf cL_80 6 2 = 0 ∧ mOf cL_80 10 2 = 0 ∧ mOf cL_80 12 2 = 0 ∧ mOf cL_80 14 2 = 0 := by decide +kernel
theorem m_1 : mOf cL_80 18 2 = 0 ∧ mOf cL_80 18 1 = 0 ∧ mOf cL_80 105 1 = 0 ∧ mOf cL_80 123 1 = 0 := by decide +kernel
def V0 : Rw := fun _ => 0
theorem Rk_0 : Rk V0 (mOf cL_80) [] none ∧ mOf cL_80 105 1 = 0 := by
  have v : ∀ j, V0 j = 0 := fun j => rfl
  have z : ∀ k j, k < 18 → k % 2 = 1 → 3 ≤ k → mOf cL_80 k j = 0 := fun k j h1 h2 h3 => mz (mz_cells ⟨k, h1⟩ h2 h3)
  have n0 : ∀ j, nN V0 j = 0 := fun j => by unfold nN; rw [v]; rfl
  obtain ⟨a0, a1, a2, a3, a4, a5, a6, a7⟩ := m_0
  obtain ⟨b1, b2, b5, b6⟩ := m_1
  have e : ∀ k j i, k < 18 → k % 2 = 1 → 3 ≤ k → mOf cL_80 k j = V0 i := fun k j i h1 h2 h3 => by rw [z k j h1 h2 h3, v]
  refine ⟨⟨⟨trivial, ⟨⟨fun r c _ _ => e _ _ _ (by decide) (by decide) (by decide), fun r c _ _ => e _ _ _ (by decide) (by decide) (by decide), fun r c _ _ => e _ _ _ (by decide) (by decide) (by decide), fun r _ => e _ _ _ (by decide) (by decide) (by decide), fun r c _ _ => e _ _ _ (by decide) (by decide) (by decide), fun r c _ _ => e _ _ _ (by decide) (by decide) (by decide), fun r c _ _ => e _ _ _ (by decide) (by decide) (by decide), fun r c _ _ => e _ _ _ (by decide) (by decide) (by decide), fun r c _ _ => e _ _ _ (by decide) (by decide) (by decide), fun r _ => e _ _ _ (by decide) (by decide) (by decide), fun r _ => e _ _ _ (by decide) (by decide) (by decide), by rw [v]; exact a0, by rw [v]; exact a1, by rw [v]; exact a2, by rw [v]; exact a3, by rw [v]; exact a4, by rw [v]; exact a5, by rw [v]; exact a6, by rw [v]; exact a7⟩, ⟨fun r _ => ?_, fun r _ => ?_, fun r _ => ?_, fun r hr => ?_, fun p hp => ?_, fun p hp => ?_⟩, ⟨⟨by rw [n0, v]; rfl, by rw [n0]; decide, by rw [n0, v]; rfl, by rw [n0]; decide, by rw [n0, v]; rfl, by rw [n0]; decide, by rw [n0, v]; rfl, by rw [n0]; decide, by rw [n0, v]; rfl, by rw [n0]; decide, by rw [n0, v]; rfl, by rw [n0]; decide, by rw [v]; exact ⟨by decide, by decide⟩⟩, fun r hr => ?_, fun r hr => ?_, fun r hr => ?_, fun r _ _ => v _, fun r k hr _ => ?_, fun p hp => ?_, fun r hr => ?_, fun r _ _ => v _, fun r hr => ?_, fun r _ _ => v _⟩⟩, col_of col_1, trivial⟩, fun k _ => v k, ⟨fun j hj => col_of (col_h ⟨j, hj⟩), 0, by decide, by decide, b1, b2, fun j W hj => by simp at hj⟩, col_of (col_s ⟨1, by decide⟩), fun W hW => by cases hW⟩, b5⟩
  · rw [z _ _ (by decide) (by decide) (by decide)]; unfold psO; rw [n0]; rfl
  · rw [z _ _ (by decide) (by decide) (by decide)]; unfold rcO; rw [n0]; rfl
  · rw [z _ _ (by decide) (by decide) (by decide)]; unfold pmO; rw [n0]; rfl
  · rw [n0] at hr; omega
  · rw [n0] at hp; omega
  · rw [n0] at hp; omega
  · rw [n0] at hr; omega
  · rw [n0] at hr; omega
  · rw [n0] at hr; omega
  · rw [n0] at hr; omega
  · rw [n0] at hp; omega
  · rw [n0] at hr; omega
  · rw [n0] at hr; omega
