def plc (k : Nat) (s : Int32) : Int32 := if 0 < s ∧ xSpI (3 * k) = s then 0 else if 0 < s ∧ xSpI (3 * k + 1) = s then 1 else if 0 < s ∧ xSpI (3 * k + 2) = s then 2 else -1
theorem sp_e : ∀ k : Fin 3, ∀ j : Fin 3, f_X2_speedOf (nI k.val) (nI j.val) = some (xSpI (3 * k.val + j.val)) := by decide +kernel
theorem ifb0 {α : Sort _} (p : Prop) [Decidable p] (a b : α) : (if bI p = 0 then a else b) = if p then b else a := by
  unfold bI
  by_cases h : p
  · simp [h]
  · simp [h]
theorem ns_e {k : Nat} (hk : k < 3) (s : Int32) : f_X2_numberOfSpeed (nI k) s = some (plc k s) := by
  have e0 := sp_e ⟨k, hk⟩ ⟨0, by decide⟩
  have e1 := sp_e ⟨k, hk⟩ ⟨1, by decide⟩
  have e2 := sp_e ⟨k, hk⟩ ⟨2, by decide⟩
  change f_X2_speedOf (nI k) 0 = _ at e0
  change f_X2_speedOf (nI k) 1 = _ at e1
  change f_X2_speedOf (nI k) 2 = _ at e2
  have a1 : (0 : Int32) + 1 = 1 := rfl
  have a2 : (1 : Int32) + 1 = 2 := rfl
  have a3 : (2 : Int32) + 1 = 3 := rfl
  have n0 : ¬ (3 : Int32) ≤ 0 := by decide
  have n1 : ¬ (3 : Int32) ≤ 1 := by decide
  have n2 : ¬ (3 : Int32) ≤ 2 := by decide
  have n3 : (3 : Int32) ≤ 3 := by decide
  suffices key : ∀ n, f_X2_numberOfSpeed_2 (n + 1 + 1 + 1 + 1) (nI k) s 0 = some (plc k s) from key 999996
  intro n
  unfold plc
  simp only [f_X2_numberOfSpeed_2, f_X2_numberOfSpeed_22, xl_e, a1, a2, a3, n0, n1, n2, n3, if_true, if_false, e0, e1, e2, xb_e]
  by_cases h : s ≤ 0
  · have h1 : ¬ 0 < s := Int32.not_lt.mpr h
    simp [h, h1]
  · have h1 : 0 < s := Int32.not_le.mp h
    simp only [h, h1, if_false, true_and]
    have c0 : 3 * k + 0 = 3 * k := rfl
    simp only [Fin.val_mk, c0] at *
    split <;> first | rfl | (split <;> first | rfl | (split <;> rfl))
theorem ps_e {M : xM} (hM : RefK M) {k : Nat} (hk : k < 3) (s : Int32) : f_X9_placeOfSpeed M (nI k) s = some (plc k s) := by
  have a1 : (0 : Int32) + 1 = 1 := rfl
  have a2 : (1 : Int32) + 1 = 2 := rfl
  have a3 : (2 : Int32) + 1 = 3 := rfl
  have n0 : ¬ (3 : Int32) ≤ 0 := by decide
  have n1 : ¬ (3 : Int32) ≤ 1 := by decide
  have n2 : ¬ (3 : Int32) ≤ 2 := by decide
  have n3 : (3 : Int32) ≤ 3 := by decide
  have b0 : xin (3 * nI k + 0) 9 = true ∧ (3 * nI k + 0 : Int32).toNatClampNeg = 3 * k := by
    rw [im_3, ir_0]; exact ⟨xin_n (by omega) (by omega), cl_n (by omega)⟩
  have b1 : xin (3 * nI k + 1) 9 = true ∧ (3 * nI k + 1 : Int32).toNatClampNeg = 3 * k + 1 := by
    rw [im_3, ir_1]; exact ⟨xin_n (by omega) (by omega), cl_n (by omega)⟩
  have b2 : xin (3 * nI k + 2) 9 = true ∧ (3 * nI k + 2 : Int32).toNatClampNeg = 3 * k + 2 := by
    rw [im_3, ir_2]; exact ⟨xin_n (by omega) (by omega), cl_n (by omega)⟩
  have m0 := hM.1 (3 * k) (by omega)
  have m1 := hM.1 (3 * k + 1) (by omega)
  have m2 := hM.1 (3 * k + 2) (by omega)
  suffices key : ∀ n, f_X9_placeOfSpeed_2 M (n + 1 + 1 + 1 + 1) (nI k) s 0 = some (plc k s) from key 999996
  intro n
  unfold plc
  simp only [f_X9_placeOfSpeed_2, f_X9_placeOfSpeed_27, xl_e, a1, a2, a3, n0, n1, n2, n3, if_true, if_false, b0.1, b0.2, b1.1, b1.2, b2.1, b2.2, xgd_e, m0, m1, m2]
  by_cases h : s ≤ 0
  · have h1 : ¬ 0 < s := Int32.not_lt.mpr h
    simp [h, h1]
  · have h1 : 0 < s := Int32.not_le.mp h
    simp only [h, h1, if_false, true_and]
    split <;> first | rfl | (split <;> first | rfl | (split <;> rfl))
theorem i32_04 {l : Int32} (h : 0 ≤ l ∧ l ≤ 3) : l = 0 ∨ l = 1 ∨ l = 2 ∨ l = 3 := by
  have h1 := Int32.le_iff_toInt_le.mp h.1
  have h2 := Int32.le_iff_toInt_le.mp h.2
  have e0 : (0 : Int32).toInt = 0 := rfl
  have e3 : (3 : Int32).toInt = 3 := rfl
  rw [e0] at h1; rw [e3] at h2
  rcases (by omega : l.toInt = 0 ∨ l.toInt = 1 ∨ l.toInt = 2 ∨ l.toInt = 3) with e | e | e | e
  · exact Or.inl (Int32.toInt_inj.mp e)
  · exact Or.inr (Or.inl (Int32.toInt_inj.mp e))
  · exact Or.inr (Or.inr (Or.inl (Int32.toInt_inj.mp e)))
  · exact Or.inr (Or.inr (Or.inr (Int32.toInt_inj.mp e)))
theorem rg_ex {x : Int32} {n : Nat} (h : rg x 0 n) (hn : n < 2147483648) : ∃ k, k ≤ n ∧ x = nI k := by
  have h1 : ¬ x < 0 := by
    rw [Int32.not_lt, Int32.le_iff_toInt_le]
    exact h.1
  obtain ⟨j, hj, rfl⟩ := nI_of h1
  refine ⟨j, ?_, rfl⟩
  have := h.2
  rw [nI_toInt hj] at this
  omega
def lyK (k l : Nat) : Bool := if k = 1 then decide (l < 3) else decide (l = 1 ∨ l = 3)
theorem hl_fin : ∀ k : Fin 3, ∀ l : Fin 4, f_X2_hasLayout (nI k.val) (nI l.val) = some (bI (lyK k.val l.val = true)) := by decide +kernel
theorem hl_out (a l : Int32) (h : ¬ (0 ≤ a ∧ a ≤ 2)) : f_X2_hasLayout a l = some 0 := by
  have h0 : ¬ a = 0 := fun e => h (by subst e; decide)
  have h1 : ¬ a = 1 := fun e => h (by subst e; decide)
  have h2 : ¬ a = 2 := fun e => h (by subst e; decide)
  simp [f_X2_hasLayout, h0, h1, h2]
theorem hl_outl (a l : Int32) (h : ¬ (0 ≤ l ∧ l ≤ 3)) : f_X2_hasLayout a l = some 0 := by
  have h0 : ¬ l = 0 := fun e => h (by subst e; decide)
  have h1 : ¬ l = 1 := fun e => h (by subst e; decide)
  have h2 : ¬ l = 2 := fun e => h (by subst e; decide)
  have h3 : ¬ l = 3 := fun e => h (by subst e; decide)
  simp [f_X2_hasLayout, h0, h1, h2, h3]
theorem allS_e (a : Int32) : f_X2_allSpeeds a = some (if a = 2 then 1 else 7) := by
  unfold f_X2_allSpeeds
  split <;> rfl
def trN (l : Nat) : Nat := if l = 0 then 1 else if l = 1 then 2 else 4
theorem ct_fin : ∀ l : Fin 4, f_X3_countTracks (nI l.val) = some (nI (trN l.val)) ∧ f_X9_tracksOf (nI l.val) = some (nI (trN l.val)) := by decide +kernel
theorem st_fin : ∀ l : Fin 4, ∀ t : Fin 4, (t.val < trN l.val → f_X3_stripsOfTrack (nI l.val) (nI t.val) = f_X9_stripsOf (nI l.val) (nI t.val)) ∧ (¬ t.val < trN l.val → f_X3_stripsOfTrack (nI l.val) (nI t.val) = some 0) := by decide +kernel
def stN (l t : Nat) : Int32 := (f_X9_stripsOf (nI l) (nI t)).getD 0
theorem st9_fin : ∀ l : Fin 4, ∀ t : Fin 4, f_X9_stripsOf (nI l.val) (nI t.val) = some (stN l.val t.val) := by decide +kernel
def onN (l t : Nat) : Nat := ((f_X9_ones (stN l t)).getD 0).toNatClampNeg
theorem on_fin : ∀ l : Fin 4, ∀ t : Fin 4, t.val < trN l.val → f_X9_ones (stN l.val t.val) = some (nI (onN l.val t.val)) ∧ f_J6_bitCount_0f7a4 (stN l.val t.val) = some (nI (onN l.val t.val)) ∧ 1 ≤ onN l.val t.val ∧ onN l.val t.val ≤ 4 := by decide +kernel
def rdN (h l t s : Nat) : Nat := ((f_X9_readBy (nI h) (nI l) (nI t) (nI s)).getD 0).toNatClampNeg
theorem rd_fin : ∀ h : Fin 4, ∀ l : Fin 4, ∀ t : Fin 4, ∀ s : Fin 2, t.val < trN l.val → f_X9_readBy (nI h.val) (nI l.val) (nI t.val) (nI s.val) = some (nI (rdN h.val l.val t.val s.val)) ∧ f_X3_mostRead (nI h.val) (nI s.val) (stN l.val t.val) = some (nI (rdN h.val l.val t.val s.val)) ∧ rdN h.val l.val t.val s.val ≤ 4 := by decide +kernel
theorem mr0_fin : ∀ h : Fin 4, ∀ s : Fin 2, ∃ v, f_X3_mostRead (nI h.val) (nI s.val) 0 = some v := by
  intro h s
  have : (f_X3_mostRead (nI h.val) (nI s.val) 0).isSome = true := by revert h s; decide +kernel
  exact Option.isSome_iff_exists.mp this
theorem bc0 : f_J6_bitCount_0f7a4 0 = some 0 := by decide +kernel
