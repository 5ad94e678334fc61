theorem sx_car {V : Nat → Int32} {M Mk : xM} (h : St V M Mk) {n : Nat} (hn : V 1 = nI n) (hc : n ≤ 8) {r : Nat} {c : Int32} (k : Nat) (v : Int32) (hr : r < n) (hk : c = nI k) (hk2 : k < 5) : ∃ M', f_X6_set 2 3 56 M (nI r) c v = some M' ∧ St (upd V (24 + 5 * r + k) v) M' Mk ∧ upd V (24 + 5 * r + k) v 1 = nI n := ⟨_, sw_car h hn hc k v hr hk hk2⟩
theorem sa_car {V : Nat → Int32} {M Mk : xM} (h : St V M Mk) {n : Nat} (hn : V 1 = nI n) (hc : n ≤ 8) (hf : ¬ n = 8) : ∃ M', f_X6_addRow 2 3 56 M = some (nI n, M') ∧ St (upd V 1 (nI (n + 1))) M' Mk ∧ upd V 1 (nI (n + 1)) 1 = nI (n + 1) := ⟨_, (s_add_car h hn hc hf).1, (s_add_car h hn hc hf).2, upd_eq⟩
theorem sx_mac {V : Nat → Int32} {M Mk : xM} (h : St V M Mk) {n : Nat} (hn : V 2 = nI n) (hc : n ≤ 4) {r : Nat} {c : Int32} (k : Nat) (v : Int32) (hr : r < n) (hk : c = nI k) (hk2 : k < 5) : ∃ M', f_X6_set 4 5 24 M (nI r) c v = some M' ∧ St (upd V (64 + 5 * r + k) v) M' Mk ∧ upd V (64 + 5 * r + k) v 2 = nI n := ⟨_, sw_mac h hn hc k v hr hk hk2⟩
theorem sa_mac {V : Nat → Int32} {M Mk : xM} (h : St V M Mk) {n : Nat} (hn : V 2 = nI n) (hc : n ≤ 4) (hf : ¬ n = 4) : ∃ M', f_X6_addRow 4 5 24 M = some (nI n, M') ∧ St (upd V 2 (nI (n + 1))) M' Mk ∧ upd V 2 (nI (n + 1)) 2 = nI (n + 1) := ⟨_, (s_add_mac h hn hc hf).1, (s_add_mac h hn hc hf).2, upd_eq⟩
theorem sx_rec {V : Nat → Int32} {M Mk : xM} (h : St V M Mk) {n : Nat} (hn : V 3 = nI n) (hc : n ≤ 16) {r : Nat} {c : Int32} (k : Nat) (v : Int32) (hr : r < n) (hk : c = nI k) (hk2 : k < 4) : ∃ M', f_X6_set 6 7 96 M (nI r) c v = some M' ∧ St (upd V (84 + 5 * r + k) v) M' Mk ∧ upd V (84 + 5 * r + k) v 3 = nI n := ⟨_, sw_rec h hn hc k v hr hk hk2⟩
theorem sa_rec {V : Nat → Int32} {M Mk : xM} (h : St V M Mk) {n : Nat} (hn : V 3 = nI n) (hc : n ≤ 16) (hf : ¬ n = 16) : ∃ M', f_X6_addRow 6 7 96 M = some (nI n, M') ∧ St (upd V 3 (nI (n + 1))) M' Mk ∧ upd V 3 (nI (n + 1)) 3 = nI (n + 1) := ⟨_, (s_add_rec h hn hc hf).1, (s_add_rec h hn hc hf).2, upd_eq⟩
theorem sx_pas {V : Nat → Int32} {M Mk : xM} (h : St V M Mk) {n : Nat} (hn : V 4 = nI n) (hc : n ≤ 24) {r : Nat} {c : Int32} (k : Nat) (v : Int32) (hr : r < n) (hk : c = nI k) (hk2 : k < 5) : ∃ M', f_X6_set 10 11 264 M (nI r) c v = some M' ∧ St (upd V (420 + 9 * r + k) v) M' Mk ∧ upd V (420 + 9 * r + k) v 4 = nI n := ⟨_, sw_pas h hn hc k v hr hk hk2⟩
theorem sa_pas {V : Nat → Int32} {M Mk : xM} (h : St V M Mk) {n : Nat} (hn : V 4 = nI n) (hc : n ≤ 24) (hf : ¬ n = 24) : ∃ M', f_X6_addRow 10 11 264 M = some (nI n, M') ∧ St (upd V 4 (nI (n + 1))) M' Mk ∧ upd V 4 (nI (n + 1)) 4 = nI (n + 1) := ⟨_, (s_add_pas h hn hc hf).1, (s_add_pas h hn hc hf).2, upd_eq⟩
theorem sx_per {V : Nat → Int32} {M Mk : xM} (h : St V M Mk) {n : Nat} (hn : V 5 = nI n) (hc : n ≤ 24) {r : Nat} {c : Int32} (k : Nat) (v : Int32) (hr : r < n) (hk : c = nI k) (hk2 : k < 5) : ∃ M', f_X6_set 12 13 120 M (nI r) c v = some M' ∧ St (upd V (636 + 5 * r + k) v) M' Mk ∧ upd V (636 + 5 * r + k) v 5 = nI n := ⟨_, sw_per h hn hc k v hr hk hk2⟩
theorem sa_per {V : Nat → Int32} {M Mk : xM} (h : St V M Mk) {n : Nat} (hn : V 5 = nI n) (hc : n ≤ 24) (hf : ¬ n = 24) : ∃ M', f_X6_addRow 12 13 120 M = some (nI n, M') ∧ St (upd V 5 (nI (n + 1))) M' Mk ∧ upd V 5 (nI (n + 1)) 5 = nI (n + 1) := ⟨_, (s_add_per h hn hc hf).1, (s_add_per h hn hc hf).2, upd_eq⟩
theorem sx_req {V : Nat → Int32} {M Mk : xM} (h : St V M Mk) {n : Nat} (hn : V 6 = nI n) (hc : n ≤ 16) {r : Nat} {c : Int32} (k : Nat) (v : Int32) (hr : r < n) (hk : c = nI k) (hk2 : k < 10) : ∃ M', f_X6_set 14 15 160 M (nI r) c v = some M' ∧ St (upd V (756 + 10 * r + k) v) M' Mk ∧ upd V (756 + 10 * r + k) v 6 = nI n := ⟨_, sw_req h hn hc k v hr hk hk2⟩
theorem sa_req {V : Nat → Int32} {M Mk : xM} (h : St V M Mk) {n : Nat} (hn : V 6 = nI n) (hc : n ≤ 16) (hf : ¬ n = 16) : ∃ M', f_X6_addRow 14 15 160 M = some (nI n, M') ∧ St (upd V 6 (nI (n + 1))) M' Mk ∧ upd V 6 (nI (n + 1)) 6 = nI (n + 1) := ⟨_, (s_add_req h hn hc hf).1, (s_add_req h hn hc hf).2, upd_eq⟩
theorem str_e (a b c : Int32) : f_X8_isStretch a b c = some (bI (0 ≤ a ∧ a < b ∧ b ≤ c)) := by
  unfold f_X8_isStretch bI
  by_cases h1 : a < 0
  · rw [if_pos h1, if_neg (fun z => absurd z.1 (Int32.not_le.mpr h1))]
  · rw [if_neg h1]
    by_cases h2 : b ≤ a
    · rw [if_pos h2, if_neg (fun z => absurd z.2.1 (Int32.not_lt.mpr h2))]
    · rw [if_neg h2]
      by_cases h3 : c < b
      · rw [if_pos h3, if_neg (fun z => absurd z.2.2 (Int32.not_le.mpr h3))]
      · rw [if_neg h3, if_pos ⟨Int32.not_lt.mp h1, Int32.not_le.mp h2, Int32.not_lt.mp h3⟩]
theorem len_e {V : Nat → Int32} {M : xM} (h : Vw V M) {r : Nat} (hr : r < nN V 3) : f_X8_lengthOfRecording M (nI r) = some (V (84 + 5 * r + 3) - V (84 + 5 * r + 2)) := by
  unfold f_X8_lengthOfRecording
  rw [g_rec_3 h hr, xb_n, g_rec_2 h hr, xb_n]
def exP (V : Nat → Int32) (r : Nat) (a1 a3 a4 a5 : Int32) : Prop := (0 ≤ a1 ∧ a1 ≤ 7) ∧ (0 ≤ a3 ∧ a3 < a4 ∧ a4 ≤ V (84 + 5 * r + 3) - V (84 + 5 * r + 2)) ∧ (0 ≤ a5 ∧ a5 ≤ 2)
theorem eoe8_no {V : Nat → Int32} {M : xM} (h : Vw V M) {a2 : Int32} (hx : ¬ xin a2 (nN V 3) = true) (a1 a3 a4 a5 : Int32) : f_X8_errorOfExcerpt M a1 a2 a3 a4 a5 = some (-1) := by
  unfold f_X8_errorOfExcerpt
  rw [has_rec h, xb_n, ifb0, if_neg hx]
theorem eoe8_ok {V : Nat → Int32} {M : xM} (h : Vw V M) {r : Nat} (hr : r < nN V 3) {a1 a3 a4 a5 : Int32} (p : exP V r a1 a3 a4 a5) : f_X8_errorOfExcerpt M a1 (nI r) a3 a4 a5 = some 0 := by
  have hx : xin (nI r) (nN V 3) = true := xin_n hr (by have := ok_c3 (v_ok h); omega)
  unfold f_X8_errorOfExcerpt f_X8_errorOfExcerpt_50
  simp only [has_rec h, xb_n, ifb0, if_pos hx, per_e, if_pos p.1, len_e h hr, str_e, if_pos p.2.1, use_e, if_pos p.2.2, xl_n]
  rfl
theorem eoe8_bad {V : Nat → Int32} {M : xM} (h : Vw V M) {r : Nat} (hr : r < nN V 3) {a1 a3 a4 a5 : Int32} (p : ¬ exP V r a1 a3 a4 a5) : f_X8_errorOfExcerpt M a1 (nI r) a3 a4 a5 = some (-2) := by
  have hx : xin (nI r) (nN V 3) = true := xin_n hr (by have := ok_c3 (v_ok h); omega)
  unfold f_X8_errorOfExcerpt f_X8_errorOfExcerpt_49 f_X8_errorOfExcerpt_50
  simp only [has_rec h, xb_n, ifb0, if_pos hx, per_e, len_e h hr, str_e, use_e, xl_n, if_true]
  by_cases p1 : 0 ≤ a1 ∧ a1 ≤ 7
  · rw [if_pos p1]
    by_cases p2 : 0 ≤ a3 ∧ a3 < a4 ∧ a4 ≤ V (84 + 5 * r + 3) - V (84 + 5 * r + 2)
    · rw [if_pos p2, if_neg (fun z => p ⟨p1, p2, z⟩)]
    · rw [if_neg p2]
  · rw [if_neg p1]
theorem rg_of {x : Int32} {a b : Int32} (h : a ≤ x ∧ x ≤ b) : rg x a.toInt b.toInt := ⟨Int32.le_iff_toInt_le.mp h.1, Int32.le_iff_toInt_le.mp h.2⟩
theorem nI_ex {x : Int32} {n : Nat} (hn : n < 2147483648) (h : 0 ≤ x ∧ x ≤ nI n) : ∃ k, k ≤ n ∧ x = nI k := by
  refine rg_ex (n := n) ⟨Int32.le_iff_toInt_le.mp h.1, ?_⟩ hn
  have := Int32.le_iff_toInt_le.mp h.2
  rwa [nI_toInt (by simpa using hn)] at this
theorem sub_rg {x y : Int32} {a b : Int} (h1 : rg x 0 a) (h2 : rg y 0 b) (ha : a < 1000000) (hb : b < 1000000) : (x - y).toInt = x.toInt - y.toInt := by
  have h1a := h1.1; have h1b := h1.2; have h2a := h2.1; have h2b := h2.2
  rw [Int32.toInt_sub, Int.bmod_eq_of_le (by omega) (by omega)]
theorem ex_rg {V : Nat → Int32} (ho : Ok V) {r : Nat} (hr : r < nN V 3) {a b : Int32} (h : 0 ≤ a ∧ a < b ∧ b ≤ V (84 + 5 * r + 3) - V (84 + 5 * r + 2)) : rg a 0 3600 ∧ rg b 0 3600 := by
  have hR := ho.2.2.2.1 r hr
  have e := sub_rg hR.2.2.2.2.1 hR.2.2.2.1 (by decide) (by decide)
  have h1 := Int32.le_iff_toInt_le.mp h.1
  have h2 := Int32.lt_iff_toInt_lt.mp h.2.1
  have h3 := Int32.le_iff_toInt_le.mp h.2.2
  rw [e] at h3
  have a1 := hR.2.2.2.2.1.2
  have a2 := hR.2.2.2.1.1
  have z : (0 : Int32).toInt = 0 := rfl
  unfold rg
  omega
