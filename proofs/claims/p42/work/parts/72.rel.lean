theorem xmn_self (a : Int32) : xmn a a = a := by unfold xmn; split <;> rfl
theorem cpT_e {t ct u cu n : Nat} {M : xM} (hn : n < 100000) (h1 : u ≠ ct) : f_X6_copyFrom t ct n u cu n M = some (xw (xcp M cu ct 0 0 n) t 2 (M u 2)) := by
  unfold f_X6_copyFrom
  have e0 : Int32.ofNat n = nI n := rfl
  have g : xcpG 0 0 (nI n) n n = true := by
    have a1 : ¬ nI n < 0 := nI_pos (by omega)
    have a2 : (nI n).toNatClampNeg = n := cl_n (by omega)
    simp [xcpG, a1, a2]
  rw [e0, xmn_self, xgd_t _ g, xl_e, xl_e, cl_n (by omega), ic_0]
  have e1 : xcp M cu ct 0 0 n u = M u := by funext j; simp [xcp, h1]
  rw [e1]
theorem cpT_t {t ct u cu n : Nat} {M : xM} : (xw (xcp M cu ct 0 0 n) t 2 (M u 2)) t 2 = M u 2 := by simp [xw]
theorem cpT_c {t ct u cu n : Nat} {M : xM} (h : t ≠ ct) {j : Nat} (hj : j < n) : (xw (xcp M cu ct 0 0 n) t 2 (M u 2)) ct j = M cu j := by
  have : ¬ (ct = t ∧ j = 2) := fun q => h q.1.symm
  simp [xw, xcp, this, va_cpy, hj]
theorem cpT_o {t ct u cu n : Nat} {M : xM} {k : Nat} (h1 : k ≠ t) (h2 : k ≠ ct) : (xw (xcp M cu ct 0 0 n) t 2 (M u 2)) k = M k := by
  funext j
  simp [xw, xcp, h1, h2]
theorem cpT_s {t ct u cu n : Nat} {M : xM} (h : t ≠ ct) {j : Nat} (hj : j ≠ 2) : (xw (xcp M cu ct 0 0 n) t 2 (M u 2)) t j = M t j := by
  simp [xw, xcp, h, hj]
def szT : Nat → Nat
  | 0 => 56
  | 1 => 24
  | 2 => 96
  | 3 => 256
  | 4 => 264
  | 5 => 120
  | 6 => 160
  | _ => 16
def Cpd (b o : Nat) (M M1 : xM) : Prop :=
  (∀ i, i < 8 → M1 (b + 1 + 2 * i) 2 = M (o + 1 + 2 * i) 2) ∧ (∀ i j, i < 8 → j < szT i → M1 (b + 2 + 2 * i) j = M (o + 2 + 2 * i) j) ∧ M1 b 8 = M o 8 ∧ M1 b 9 = M o 9 ∧ (∀ i, i < 8 → M1 (b + 1 + 2 * i) 1 = M (b + 1 + 2 * i) 1) ∧ ∀ k, k < b ∨ b + 16 < k → M1 k = M k
theorem cp_e {b o : Nat} {M : xM} (hd : b + 17 ≤ o ∨ o + 17 ≤ b) : ∃ M1, f_X5_copyFrom b o M = some M1 ∧ Cpd b o M M1 := by
  obtain ⟨M1, e1⟩ : ∃ M1, M1 = xw (xcp M (o + 2) (b + 2) 0 0 56) (b + 1) 2 (M (o + 1) 2) := ⟨_, rfl⟩
  obtain ⟨M2, e2⟩ : ∃ M2, M2 = xw (xcp M1 (o + 4) (b + 4) 0 0 24) (b + 3) 2 (M1 (o + 3) 2) := ⟨_, rfl⟩
  obtain ⟨M3, e3⟩ : ∃ M3, M3 = xw (xcp M2 (o + 6) (b + 6) 0 0 96) (b + 5) 2 (M2 (o + 5) 2) := ⟨_, rfl⟩
  obtain ⟨M4, e4⟩ : ∃ M4, M4 = xw (xcp M3 (o + 8) (b + 8) 0 0 256) (b + 7) 2 (M3 (o + 7) 2) := ⟨_, rfl⟩
  obtain ⟨M5, e5⟩ : ∃ M5, M5 = xw (xcp M4 (o + 10) (b + 10) 0 0 264) (b + 9) 2 (M4 (o + 9) 2) := ⟨_, rfl⟩
  obtain ⟨M6, e6⟩ : ∃ M6, M6 = xw (xcp M5 (o + 12) (b + 12) 0 0 120) (b + 11) 2 (M5 (o + 11) 2) := ⟨_, rfl⟩
  obtain ⟨M7, e7⟩ : ∃ M7, M7 = xw (xcp M6 (o + 14) (b + 14) 0 0 160) (b + 13) 2 (M6 (o + 13) 2) := ⟨_, rfl⟩
  obtain ⟨M8, e8⟩ : ∃ M8, M8 = xw (xcp M7 (o + 16) (b + 16) 0 0 16) (b + 15) 2 (M7 (o + 15) 2) := ⟨_, rfl⟩
  obtain ⟨M9, e9⟩ : ∃ M9, M9 = xw M8 b 8 (M8 o 8) := ⟨_, rfl⟩
  obtain ⟨M10, e10⟩ : ∃ M10, M10 = xw M9 b 9 (M9 o 9) := ⟨_, rfl⟩
  refine ⟨M10, ?_, ?_⟩
  · unfold f_X5_copyFrom
    rw [cpT_e (by decide) (by omega), xb_e, ← e1, cpT_e (by decide) (by omega), xb_e, ← e2, cpT_e (by decide) (by omega), xb_e, ← e3, cpT_e (by decide) (by omega), xb_e, ← e4, cpT_e (by decide) (by omega), xb_e, ← e5, cpT_e (by decide) (by omega), xb_e, ← e6, cpT_e (by decide) (by omega), xb_e, ← e7, cpT_e (by decide) (by omega), xb_e, ← e8, xl_e, xl_e, ← e9, ← e10]
  · have k1 : ∀ k, k ≠ b + 1 → k ≠ b + 2 → M1 k = M k := fun k h1 h2 => by rw [e1]; exact cpT_o h1 h2
    have k2 : ∀ k, k ≠ b + 3 → k ≠ b + 4 → M2 k = M1 k := fun k h1 h2 => by rw [e2]; exact cpT_o h1 h2
    have k3 : ∀ k, k ≠ b + 5 → k ≠ b + 6 → M3 k = M2 k := fun k h1 h2 => by rw [e3]; exact cpT_o h1 h2
    have k4 : ∀ k, k ≠ b + 7 → k ≠ b + 8 → M4 k = M3 k := fun k h1 h2 => by rw [e4]; exact cpT_o h1 h2
    have k5 : ∀ k, k ≠ b + 9 → k ≠ b + 10 → M5 k = M4 k := fun k h1 h2 => by rw [e5]; exact cpT_o h1 h2
    have k6 : ∀ k, k ≠ b + 11 → k ≠ b + 12 → M6 k = M5 k := fun k h1 h2 => by rw [e6]; exact cpT_o h1 h2
    have k7 : ∀ k, k ≠ b + 13 → k ≠ b + 14 → M7 k = M6 k := fun k h1 h2 => by rw [e7]; exact cpT_o h1 h2
    have k8 : ∀ k, k ≠ b + 15 → k ≠ b + 16 → M8 k = M7 k := fun k h1 h2 => by rw [e8]; exact cpT_o h1 h2
    have k9 : ∀ k, k ≠ b → M9 k = M8 k := fun k h1 => by rw [e9]; exact xw_ne h1
    have k10 : ∀ k, k ≠ b → M10 k = M9 k := fun k h1 => by rw [e10]; exact xw_ne h1
    have up : ∀ k, k < b ∨ b + 16 < k → M10 k = M k := fun k h => by
      rw [k10 k (by omega), k9 k (by omega), k8 k (by omega) (by omega), k7 k (by omega) (by omega), k6 k (by omega) (by omega), k5 k (by omega) (by omega), k4 k (by omega) (by omega), k3 k (by omega) (by omega), k2 k (by omega) (by omega), k1 k (by omega) (by omega)]
    have b8 : M10 b 8 = M o 8 := by
      rw [e10]
      have : (xw M9 b 9 (M9 o 9)) b 8 = M9 b 8 := by simp [xw]
      rw [this, e9]
      have : (xw M8 b 8 (M8 o 8)) b 8 = M8 o 8 := by simp [xw]
      rw [this, k8 o (by omega) (by omega), k7 o (by omega) (by omega), k6 o (by omega) (by omega), k5 o (by omega) (by omega), k4 o (by omega) (by omega), k3 o (by omega) (by omega), k2 o (by omega) (by omega), k1 o (by omega) (by omega)]
    have b9 : M10 b 9 = M o 9 := by
      rw [e10]
      have : (xw M9 b 9 (M9 o 9)) b 9 = M9 o 9 := by simp [xw]
      rw [this, k9 o (by omega), k8 o (by omega) (by omega), k7 o (by omega) (by omega), k6 o (by omega) (by omega), k5 o (by omega) (by omega), k4 o (by omega) (by omega), k3 o (by omega) (by omega), k2 o (by omega) (by omega), k1 o (by omega) (by omega)]
    refine ⟨fun i hi => ?_, fun i j hi hj => ?_, b8, b9, fun i hi => ?_, up⟩
    · match i, hi with
      | 0, _ => rw [show b + 1 + 2 * 0 = b + 1 from rfl, show o + 1 + 2 * 0 = o + 1 from rfl, k10 _ (by omega), k9 _ (by omega), k8 _ (by omega) (by omega), k7 _ (by omega) (by omega), k6 _ (by omega) (by omega), k5 _ (by omega) (by omega), k4 _ (by omega) (by omega), k3 _ (by omega) (by omega), k2 _ (by omega) (by omega), e1, cpT_t]
      | 1, _ => rw [show b + 1 + 2 * 1 = b + 3 from rfl, show o + 1 + 2 * 1 = o + 3 from rfl, k10 _ (by omega), k9 _ (by omega), k8 _ (by omega) (by omega), k7 _ (by omega) (by omega), k6 _ (by omega) (by omega), k5 _ (by omega) (by omega), k4 _ (by omega) (by omega), k3 _ (by omega) (by omega), e2, cpT_t, k1 _ (by omega) (by omega)]
      | 2, _ => rw [show b + 1 + 2 * 2 = b + 5 from rfl, show o + 1 + 2 * 2 = o + 5 from rfl, k10 _ (by omega), k9 _ (by omega), k8 _ (by omega) (by omega), k7 _ (by omega) (by omega), k6 _ (by omega) (by omega), k5 _ (by omega) (by omega), k4 _ (by omega) (by omega), e3, cpT_t, k2 _ (by omega) (by omega), k1 _ (by omega) (by omega)]
      | 3, _ => rw [show b + 1 + 2 * 3 = b + 7 from rfl, show o + 1 + 2 * 3 = o + 7 from rfl, k10 _ (by omega), k9 _ (by omega), k8 _ (by omega) (by omega), k7 _ (by omega) (by omega), k6 _ (by omega) (by omega), k5 _ (by omega) (by omega), e4, cpT_t, k3 _ (by omega) (by omega), k2 _ (by omega) (by omega), k1 _ (by omega) (by omega)]
      | 4, _ => rw [show b + 1 + 2 * 4 = b + 9 from rfl, show o + 1 + 2 * 4 = o + 9 from rfl, k10 _ (by omega), k9 _ (by omega), k8 _ (by omega) (by omega), k7 _ (by omega) (by omega), k6 _ (by omega) (by omega), e5, cpT_t, k4 _ (by omega) (by omega), k3 _ (by omega) (by omega), k2 _ (by omega) (by omega), k1 _ (by omega) (by omega)]
      | 5, _ => rw [show b + 1 + 2 * 5 = b + 11 from rfl, show o + 1 + 2 * 5 = o + 11 from rfl, k10 _ (by omega), k9 _ (by omega), k8 _ (by omega) (by omega), k7 _ (by omega) (by omega), e6, cpT_t, k5 _ (by omega) (by omega), k4 _ (by omega) (by omega), k3 _ (by omega) (by omega), k2 _ (by omega) (by omega), k1 _ (by omega) (by omega)]
      | 6, _ => rw [show b + 1 + 2 * 6 = b + 13 from rfl, show o + 1 + 2 * 6 = o + 13 from rfl, k10 _ (by omega), k9 _ (by omega), k8 _ (by omega) (by omega), e7, cpT_t, k6 _ (by omega) (by omega), k5 _ (by omega) (by omega), k4 _ (by omega) (by omega), k3 _ (by omega) (by omega), k2 _ (by omega) (by omega), k1 _ (by omega) (by omega)]
      | 7, _ => rw [show b + 1 + 2 * 7 = b + 15 from rfl, show o + 1 + 2 * 7 = o + 15 from rfl, k10 _ (by omega), k9 _ (by omega), e8, cpT_t, k7 _ (by omega) (by omega), k6 _ (by omega) (by omega), k5 _ (by omega) (by omega), k4 _ (by omega) (by omega), k3 _ (by omega) (by omega), k2 _ (by omega) (by omega), k1 _ (by omega) (by omega)]
    · match i, hi, hj with
      | 0, _, hj => rw [show b + 2 + 2 * 0 = b + 2 from rfl, show o + 2 + 2 * 0 = o + 2 from rfl, k10 _ (by omega), k9 _ (by omega), k8 _ (by omega) (by omega), k7 _ (by omega) (by omega), k6 _ (by omega) (by omega), k5 _ (by omega) (by omega), k4 _ (by omega) (by omega), k3 _ (by omega) (by omega), k2 _ (by omega) (by omega), e1, cpT_c (n := 56) (by omega) hj]
      | 1, _, hj => rw [show b + 2 + 2 * 1 = b + 4 from rfl, show o + 2 + 2 * 1 = o + 4 from rfl, k10 _ (by omega), k9 _ (by omega), k8 _ (by omega) (by omega), k7 _ (by omega) (by omega), k6 _ (by omega) (by omega), k5 _ (by omega) (by omega), k4 _ (by omega) (by omega), k3 _ (by omega) (by omega), e2, cpT_c (n := 24) (by omega) hj, k1 _ (by omega) (by omega)]
      | 2, _, hj => rw [show b + 2 + 2 * 2 = b + 6 from rfl, show o + 2 + 2 * 2 = o + 6 from rfl, k10 _ (by omega), k9 _ (by omega), k8 _ (by omega) (by omega), k7 _ (by omega) (by omega), k6 _ (by omega) (by omega), k5 _ (by omega) (by omega), k4 _ (by omega) (by omega), e3, cpT_c (n := 96) (by omega) hj, k2 _ (by omega) (by omega), k1 _ (by omega) (by omega)]
      | 3, _, hj => rw [show b + 2 + 2 * 3 = b + 8 from rfl, show o + 2 + 2 * 3 = o + 8 from rfl, k10 _ (by omega), k9 _ (by omega), k8 _ (by omega) (by omega), k7 _ (by omega) (by omega), k6 _ (by omega) (by omega), k5 _ (by omega) (by omega), e4, cpT_c (n := 256) (by omega) hj, k3 _ (by omega) (by omega), k2 _ (by omega) (by omega), k1 _ (by omega) (by omega)]
      | 4, _, hj => rw [show b + 2 + 2 * 4 = b + 10 from rfl, show o + 2 + 2 * 4 = o + 10 from rfl, k10 _ (by omega), k9 _ (by omega), k8 _ (by omega) (by omega), k7 _ (by omega) (by omega), k6 _ (by omega) (by omega), e5, cpT_c (n := 264) (by omega) hj, k4 _ (by omega) (by omega), k3 _ (by omega) (by omega), k2 _ (by omega) (by omega), k1 _ (by omega) (by omega)]
      | 5, _, hj => rw [show b + 2 + 2 * 5 = b + 12 from rfl, show o + 2 + 2 * 5 = o + 12 from rfl, k10 _ (by omega), k9 _ (by omega), k8 _ (by omega) (by omega), k7 _ (by omega) (by omega), e6, cpT_c (n := 120) (by omega) hj, k5 _ (by omega) (by omega), k4 _ (by omega) (by omega), k3 _ (by omega) (by omega), k2 _ (by omega) (by omega), k1 _ (by omega) (by omega)]
      | 6, _, hj => rw [show b + 2 + 2 * 6 = b + 14 from rfl, show o + 2 + 2 * 6 = o + 14 from rfl, k10 _ (by omega), k9 _ (by omega), k8 _ (by omega) (by omega), e7, cpT_c (n := 160) (by omega) hj, k6 _ (by omega) (by omega), k5 _ (by omega) (by omega), k4 _ (by omega) (by omega), k3 _ (by omega) (by omega), k2 _ (by omega) (by omega), k1 _ (by omega) (by omega)]
      | 7, _, hj => rw [show b + 2 + 2 * 7 = b + 16 from rfl, show o + 2 + 2 * 7 = o + 16 from rfl, k10 _ (by omega), k9 _ (by omega), e8, cpT_c (n := 16) (by omega) hj, k7 _ (by omega) (by omega), k6 _ (by omega) (by omega), k5 _ (by omega) (by omega), k4 _ (by omega) (by omega), k3 _ (by omega) (by omega), k2 _ (by omega) (by omega), k1 _ (by omega) (by omega)]
    · have s1 : ∀ k, k ≠ b + 1 → k ≠ b + 2 → M1 k 1 = M k 1 := fun k h1 h2 => by rw [k1 k h1 h2]
      match i, hi with
      | 0, _ => rw [show b + 1 + 2 * 0 = b + 1 from rfl, k10 _ (by omega), k9 _ (by omega), k8 _ (by omega) (by omega), k7 _ (by omega) (by omega), k6 _ (by omega) (by omega), k5 _ (by omega) (by omega), k4 _ (by omega) (by omega), k3 _ (by omega) (by omega), k2 _ (by omega) (by omega), e1, cpT_s (by omega) (by decide)]
      | 1, _ => rw [show b + 1 + 2 * 1 = b + 3 from rfl, k10 _ (by omega), k9 _ (by omega), k8 _ (by omega) (by omega), k7 _ (by omega) (by omega), k6 _ (by omega) (by omega), k5 _ (by omega) (by omega), k4 _ (by omega) (by omega), k3 _ (by omega) (by omega), e2, cpT_s (by omega) (by decide), k1 _ (by omega) (by omega)]
      | 2, _ => rw [show b + 1 + 2 * 2 = b + 5 from rfl, k10 _ (by omega), k9 _ (by omega), k8 _ (by omega) (by omega), k7 _ (by omega) (by omega), k6 _ (by omega) (by omega), k5 _ (by omega) (by omega), k4 _ (by omega) (by omega), e3, cpT_s (by omega) (by decide), k2 _ (by omega) (by omega), k1 _ (by omega) (by omega)]
      | 3, _ => rw [show b + 1 + 2 * 3 = b + 7 from rfl, k10 _ (by omega), k9 _ (by omega), k8 _ (by omega) (by omega), k7 _ (by omega) (by omega), k6 _ (by omega) (by omega), k5 _ (by omega) (by omega), e4, cpT_s (by omega) (by decide), k3 _ (by omega) (by omega), k2 _ (by omega) (by omega), k1 _ (by omega) (by omega)]
      | 4, _ => rw [show b + 1 + 2 * 4 = b + 9 from rfl, k10 _ (by omega), k9 _ (by omega), k8 _ (by omega) (by omega), k7 _ (by omega) (by omega), k6 _ (by omega) (by omega), e5, cpT_s (by omega) (by decide), k4 _ (by omega) (by omega), k3 _ (by omega) (by omega), k2 _ (by omega) (by omega), k1 _ (by omega) (by omega)]
      | 5, _ => rw [show b + 1 + 2 * 5 = b + 11 from rfl, k10 _ (by omega), k9 _ (by omega), k8 _ (by omega) (by omega), k7 _ (by omega) (by omega), e6, cpT_s (by omega) (by decide), k5 _ (by omega) (by omega), k4 _ (by omega) (by omega), k3 _ (by omega) (by omega), k2 _ (by omega) (by omega), k1 _ (by omega) (by omega)]
      | 6, _ => rw [show b + 1 + 2 * 6 = b + 13 from rfl, k10 _ (by omega), k9 _ (by omega), k8 _ (by omega) (by omega), e7, cpT_s (by omega) (by decide), k6 _ (by omega) (by omega), k5 _ (by omega) (by omega), k4 _ (by omega) (by omega), k3 _ (by omega) (by omega), k2 _ (by omega) (by omega), k1 _ (by omega) (by omega)]
      | 7, _ => rw [show b + 1 + 2 * 7 = b + 15 from rfl, k10 _ (by omega), k9 _ (by omega), e8, cpT_s (by omega) (by decide), k7 _ (by omega) (by omega), k6 _ (by omega) (by omega), k5 _ (by omega) (by omega), k4 _ (by omega) (by omega), k3 _ (by omega) (by omega), k2 _ (by omega) (by omega), k1 _ (by omega) (by omega)]
def Lk (b o : Nat) (M M1 : xM) : Prop := (∀ i, i < 8 → M1 (b + 1 + 2 * i) 2 = M (o + 1 + 2 * i) 2) ∧ (∀ i j, i < 8 → j < szT i → M1 (b + 2 + 2 * i) j = M (o + 2 + 2 * i) j) ∧ M1 b 8 = M o 8 ∧ M1 b 9 = M o 9
theorem Enc_of {V : Nat → Int32} {M M1 : xM} {b o : Nat} (h : Enc V M o) (hl : Lk b o M M1) : Enc V M1 b := by
  obtain ⟨⟨r1, r2, r3, r4, r5, r6, r7, r8, r9, r10, r11, r12, r13, r14, r15, r16, r17, r18, r19⟩, ⟨d1, d2, d3, d4, d5, d6⟩, hok⟩ := h
  obtain ⟨l1, l2, l3, l4⟩ := hl
  have n3 : nN V 3 ≤ 16 := ok_c3 hok
  have n4 : nN V 4 ≤ 24 := ok_c4 hok
  have c0 := fun j (hj : j < 56) => l2 0 j (by decide) hj
  have c1 := fun j (hj : j < 24) => l2 1 j (by decide) hj
  have c2 := fun j (hj : j < 96) => l2 2 j (by decide) hj
  have c3 := fun j (hj : j < 256) => l2 3 j (by decide) hj
  have c4 := fun j (hj : j < 264) => l2 4 j (by decide) hj
  have c5 := fun j (hj : j < 120) => l2 5 j (by decide) hj
  have c6 := fun j (hj : j < 160) => l2 6 j (by decide) hj
  have c7 := fun j (hj : j < 16) => l2 7 j (by decide) hj
  refine ⟨⟨fun r c h1 h2 => ?_, fun r c h1 h2 => ?_, fun r c h1 h2 => ?_, fun r h1 => ?_, fun r c h1 h2 => ?_, fun r c h1 h2 => ?_, fun r c h1 h2 => ?_, fun r c h1 h2 => ?_, fun r c h1 h2 => ?_, fun r h1 => ?_, fun r h1 => ?_, l3.trans r12, l4.trans r13, (l1 0 (by decide)).trans r14, (l1 1 (by decide)).trans r15, (l1 2 (by decide)).trans r16, (l1 4 (by decide)).trans r17, (l1 5 (by decide)).trans r18, (l1 6 (by decide)).trans r19⟩, ⟨fun r h1 => ?_, fun r h1 => ?_, fun r h1 => ?_, fun r h1 => ?_, fun r h1 => ?_, fun r h1 => ?_⟩, hok⟩
  · exact (c0 _ (by omega)).trans (r1 r c h1 h2)
  · exact (c1 _ (by omega)).trans (r2 r c h1 h2)
  · exact (c2 _ (by omega)).trans (r3 r c h1 h2)
  · exact (c2 _ (by omega)).trans (r4 r h1)
  · exact (c3 _ (by omega)).trans (r5 r c h1 h2)
  · exact (c4 _ (by omega)).trans (r6 r c h1 h2)
  · exact (c4 _ (by omega)).trans (r7 r c h1 h2)
  · exact (c5 _ (by omega)).trans (r8 r c h1 h2)
  · exact (c6 _ (by omega)).trans (r9 r c h1 h2)
  · exact (c7 _ (by omega)).trans (r10 r h1)
  · exact (c7 _ (by omega)).trans (r11 r h1)
  · exact (c0 _ (by omega)).trans (d1 r h1)
  · exact (c0 _ (by omega)).trans (d2 r h1)
  · exact (c1 _ (by omega)).trans (d3 r h1)
  · have e : M1 (b + 6) (r * 6 + 4) = M (o + 6) (r * 6 + 4) := c2 _ (by omega)
    rw [e]; exact d4 r h1
  · exact (c4 _ (by omega)).trans (d5 r h1)
  · exact (c4 _ (by omega)).trans (d6 r h1)
theorem Lk_cp {b o : Nat} {M M1 : xM} (h : Cpd b o M M1) : Lk b o M M1 := ⟨h.1, h.2.1, h.2.2.1, h.2.2.2.1⟩
theorem Lk_same {b : Nat} {M M1 : xM} (h : ∀ k, b ≤ k → k ≤ b + 16 → M1 k = M k) : Lk b b M M1 := ⟨fun i hi => by rw [h _ (by omega) (by omega)], fun i j hi _ => by rw [h _ (by omega) (by omega)], by rw [h _ (by omega) (by omega)], by rw [h _ (by omega) (by omega)]⟩
theorem Col_cp {b o : Nat} {M M1 : xM} (h : Cpd b o M M1) (hc : EncCol M b) (ho : EncCol M o) : EncCol M1 b := by
  obtain ⟨h1, -, -, -, h5, -⟩ := h
  obtain ⟨a0, a1, a2, a3, a4, a5, a6, a7, a8, a9⟩ := hc
  exact ⟨(h5 0 (by decide)).trans a0, (h5 1 (by decide)).trans a1, (h5 2 (by decide)).trans a2, (h5 3 (by decide)).trans a3, (h5 4 (by decide)).trans a4, (h5 5 (by decide)).trans a5, (h5 6 (by decide)).trans a6, (h5 7 (by decide)).trans a7, (h1 3 (by decide)).trans ho.2.2.2.2.2.2.2.2.1, (h1 7 (by decide)).trans ho.2.2.2.2.2.2.2.2.2⟩
theorem Col_same {b : Nat} {M M1 : xM} (h : ∀ k, b ≤ k → k ≤ b + 16 → M1 k = M k) (hc : EncCol M b) : EncCol M1 b := by
  obtain ⟨a0, a1, a2, a3, a4, a5, a6, a7, a8, a9⟩ := hc
  exact ⟨by rw [h _ (by omega) (by omega)]; exact a0, by rw [h _ (by omega) (by omega)]; exact a1, by rw [h _ (by omega) (by omega)]; exact a2, by rw [h _ (by omega) (by omega)]; exact a3, by rw [h _ (by omega) (by omega)]; exact a4, by rw [h _ (by omega) (by omega)]; exact a5, by rw [h _ (by omega) (by omega)]; exact a6, by rw [h _ (by omega) (by omega)]; exact a7, by rw [h _ (by omega) (by omega)]; exact a8, by rw [h _ (by omega) (by omega)]; exact a9⟩

