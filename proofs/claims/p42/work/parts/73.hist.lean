def hB (j : Nat) : Nat := 20 + 17 * j
def sB (s : Nat) : Nat := 106 + 18 * s
def Z916 (V : Nat → Int32) : Prop := ∀ k, 916 ≤ k → V k = 0
theorem xHist_e {e : Nat} (he : e < 5) : xHist (nI e) = some (hB e) := by
  have : ∀ e : Fin 5, xHist (nI e.val) = some (hB e.val) := by decide +kernel
  exact this ⟨e, he⟩
theorem xStaB_e {e : Nat} (he : e < 5) : xStaB (hB e) = true := by
  have : ∀ e : Fin 5, xStaB (hB e.val) = true := by decide +kernel
  exact this ⟨e, he⟩
theorem stateAt_e {M : xM} {e : Nat} (he : e < 5) : f_X1_stateAt M (nI e) = some (some (hB e)) := by
  unfold f_X1_stateAt
  rw [if_neg (nI_pos (by omega)), if_neg (by show ¬ nI 5 ≤ nI e; rw [le_n (by decide) (by omega)]; omega), xgd_t _ (xin_n he (by omega)), xHist_e he]
def Kp (M Mk : xM) (h e : Nat) : Prop := (∀ k, ¬ (k = 18 ∨ (20 ≤ k ∧ k ≤ 104)) → Mk k = M k) ∧ Mk 18 1 = nI ((e + 1) % 5) ∧ Mk 18 2 = nI (min (h + 1) 5) ∧ Lk (hB e) 1 M Mk ∧ (∀ k, ¬ k = 18 → (k < hB e ∨ hB e + 16 < k) → Mk k = M k) ∧ ∀ j, j < 5 → EncCol Mk (hB j)
theorem keep_e {M : xM} {h e : Nat} (hc : ∀ j, j < 5 → EncCol M (hB j)) (h1 : EncCol M 1) (hh : h ≤ 5) (he : e < 5) (e1 : M 18 1 = nI e) (e2 : M 18 2 = nI h) : ∃ Mk, f_X1_keep M = some Mk ∧ Kp M Mk h e := by
  have hb : 20 ≤ hB e ∧ hB e ≤ 88 := by unfold hB; omega
  obtain ⟨M4, c1, c2⟩ := cp_e (b := hB e) (o := 1) (M := M) (by unfold hB; omega)
  have m18 : M4 18 = M 18 := c2.2.2.2.2.2 18 (by omega)
  have hx : (if (5 : Int32) ≤ nI e + 1 then f_X1_keep_39 M4 0 else f_X1_keep_39 M4 (nI e + 1)) = f_X1_keep_39 M4 (nI ((e + 1) % 5)) := by
    rw [ir_1]
    by_cases h5 : e = 4
    · subst h5
      rfl
    · rw [if_neg (by show ¬ nI 5 ≤ _; rw [le_n (by decide) (by omega)]; omega), Nat.mod_eq_of_lt (by omega)]
  have hy : xmn (nI h + 1) 5 = nI (min (h + 1) 5) := by
    rw [ir_1]
    unfold xmn
    show (if nI 5 < nI (h + 1) then nI 5 else nI (h + 1)) = _
    by_cases q : 5 < h + 1
    · rw [if_pos (by rw [lt_n (by decide) (by omega)]; exact q), Nat.min_eq_right (by omega)]
    · rw [if_neg (by rw [lt_n (by decide) (by omega)]; exact q), Nat.min_eq_left (by omega)]
  refine ⟨xw (xw M4 18 1 (nI ((e + 1) % 5))) 18 2 (nI (min (h + 1) 5)), ?_, ?_⟩
  · unfold f_X1_keep
    rw [e1, stateAt_e he, xb_e]
    show xgd (xStaB (hB e)) _ = _
    rw [xgd_t _ (xStaB_e he), c1, xb_e]
    unfold f_X1_keep_18
    rw [m18, e1, hx]
    unfold f_X1_keep_39
    rw [xl_e, xl_e]
    have : (xw M4 18 1 (nI ((e + 1) % 5))) 18 2 = nI h := by simp [xw, m18, e2]
    rw [this, hy]
  · have g : ∀ k, k ≠ 18 → (xw (xw M4 18 1 (nI ((e + 1) % 5))) 18 2 (nI (min (h + 1) 5))) k = M4 k := fun k hk => by rw [xw_ne hk, xw_ne hk]
    refine ⟨fun k hk => ?_, ?_, ?_, ?_, fun k hk hk2 => ?_, fun j hj => ?_⟩
    · rw [g k (by omega)]; exact c2.2.2.2.2.2 k (by omega)
    · simp [xw]
    · simp [xw]
    · obtain ⟨l1, l2, l3, l4, -, -⟩ := c2
      exact ⟨fun i hi => by rw [g _ (by omega)]; exact l1 i hi, fun i j hi hj => by rw [g _ (by omega)]; exact l2 i j hi hj, by rw [g _ (by omega)]; exact l3, by rw [g _ (by omega)]; exact l4⟩
    · rw [g k hk]; exact c2.2.2.2.2.2 k hk2
    · have hj1 : 20 ≤ hB j := by unfold hB; omega
      by_cases q : j = e
      · subst q
        have h9 : EncCol M4 (hB j) := Col_cp c2 (hc j hj) h1
        exact Col_same (fun k b1 b2 => g k (by omega)) h9
      · refine Col_same (fun k b1 b2 => ?_) (hc j hj)
        rw [g k (by omega)]
        exact c2.2.2.2.2.2 k (by unfold hB at *; omega)
