theorem sx_car {V : Nat → Int32} {M Mk : xM} (h : St V M Mk) {n : Nat} (hn : V 1 = nI n) (hc : n ≤ 8) {r : Nat} {c : Int32} (k : Nat) (v : Int32) (hr : r < n) (hk : c = nI k) (hk2 : k < 5) : ∃ M', f_X6_set 2 3 56 M (nI r) c v = some M' ∧ St (upd V (24 + 5 * r + k) v) M' Mk ∧ upd V (24 + 5 * r + k) v 1 = nI n := ⟨_, sw_car h hn hc k v hr hk hk2⟩
theorem sa_car {V : Nat → Int32} {M Mk : xM} (h : St V M Mk) {n : Nat} (hn : V 1 = nI n) (hc : n ≤ 8) (hf : ¬ n = 8) : ∃ M', f_X6_addRow 2 3 56 M = some (nI n, M') ∧ St (upd V 1 (nI (n + 1))) M' Mk ∧ upd V 1 (nI (n + 1)) 1 = nI (n + 1) := ⟨_, (s_add_car h hn hc hf).1, (s_add_car h hn hc hf).2, upd_eq⟩
theorem sx_mac {V : Nat → Int32} {M Mk : xM} (h : St V M Mk) {n : Nat} (hn : V 2 = nI n) (hc : n ≤ 4) {r : Nat} {c : Int32} (k : Nat) (v : Int32) (hr : r < n) (hk : c = nI k) (hk2 : k < 5) : ∃ M', f_X6_set 4 5 24 M (nI r) c v = some M' ∧ St (upd V (64 + 5 * r + k) v) M' Mk ∧ upd V (64 + 5 * r + k) v 2 = nI n := ⟨_, sw_mac h hn hc k v hr hk hk2⟩
theorem sa_mac {V : Nat → Int32} {M Mk : xM} (h : St V M Mk) {n : Nat} (hn : V 2 = nI n) (hc : n ≤ 4) (hf : ¬ n = 4) : ∃ M', f_X6_addRow 4 5 24 M = some (nI n, M') ∧ St (upd V 2 (nI (n + 1))) M' Mk ∧ upd V 2 (nI (n + 1)) 2 = nI (n + 1) := ⟨_, (s_add_mac h hn hc hf).1, (s_add_mac h hn hc hf).2, upd_eq⟩
theorem sx_rec {V : Nat → Int32} {M Mk : xM} (h : St V M Mk) {n : Nat} (hn : V 3 = nI n) (hc : n ≤ 16) {r : Nat} {c : Int32} (k : Nat) (v : Int32) (hr : r < n) (hk : c = nI k) (hk2 : k < 4) : ∃ M', f_X6_set 6 7 96 M (nI r) c v = some M' ∧ St (upd V (84 + 5 * r + k) v) M' Mk ∧ upd V (84 + 5 * r + k) v 3 = nI n := ⟨_, sw_rec h hn hc k v hr hk hk2⟩
theorem sa_rec {V : Nat → Int32} {M Mk : xM} (h : St V M Mk) {n : Nat} (hn : V 3 = nI n) (hc : n ≤ 16) (hf : ¬ n = 16) : ∃ M', f_X6_addRow 6 7 96 M = some (nI n, M') ∧ St (upd V 3 (nI (n + 1))) M' Mk ∧ upd V 3 (nI (n + 1)) 3 = nI (n + 1) := ⟨_, (s_add_rec h hn hc hf).1, (s_add_rec h hn hc hf).2, upd_eq⟩
theorem sx_pas {V : Nat → Int32} {M Mk : xM} (h : St V M Mk) {n : Nat} (hn : V 4 = nI n) (hc : n ≤ 24) {r : Nat} {c : Int32} (k : Nat) (v : Int32) (hr : r < n) (hk : c = nI k) (hk2 : k < 5) : ∃ M', f_X6_set 10 11 264 M (nI r) c v = some M' ∧ St (upd V (420 + 9 * r + k) v) M' Mk ∧ upd V (420 + 9 * r + k) v 4 = nI n := ⟨_, sw_pas h hn hc k v hr hk hk2⟩
theorem sa_pas {V : Nat → Int32} {M Mk : xM} (h : St V M Mk) {n : Nat} (hn : V 4 = nI n) (hc : n ≤ 24) (hf : ¬ n = 24) : ∃ M', f_X6_addRow 10 11 264 M = some (nI n, M') ∧ St (upd V 4 (nI (n + 1))) M' Mk ∧ upd V 4 (nI (n + 1)) 4 = nI (n + 1) := ⟨_, (s_add_pas h hn hc hf).1, (s_add_pas h hn hc hf).2, upd_eq⟩
theorem sx_per {V : Nat → Int32} {M Mk : xM} (h : St V M Mk) {n : Nat} (hn : V 5 = nI n) (hc : n ≤ 24) {r : Nat} {c : Int32} (k : Nat) (v : Int32) (hr : r < n) (hk : c = nI k) (hk2 : k < 5) : ∃ M', f_X6_set 12 13 120 M (nI r) c v = some M' ∧ St (upd V (636 + 5 * r + k) v) M' Mk ∧ upd V (636 + 5 * r + k) v 5 = nI n := ⟨_, sw_per h hn hc k v hr hk hk2⟩
theorem sa_per {V : Nat → Int32} {M Mk : xM} (h : St V M Mk) {n : Nat} (hn : V 5 = nI n) (hc : n ≤ 24) (hf : ¬ n = 24) : ∃ M', f_X6_addRow 12 13 120 M = some (nI n, M') ∧ St (upd V 5 (nI (n + 1))) M' Mk ∧ upd V 5 (nI (n + 1)) 5 = nI (n + 1) := ⟨_, (s_add_per h hn hc hf).1, (s_add_per h hn hc hf).2, upd_eq⟩
theorem sx_req {V : Nat → Int32} {M Mk : xM} (h : St V M Mk) {n : Nat} (hn : V 6 = nI n) (hc : n ≤ 16) {r : Nat} {c : Int32} (k : Nat) (v : Int32) (hr : r < n) (hk : c = nI k) (hk2 : k < 10) : ∃ M', f_X6_set 14 15 160 M (nI r) c v = some M' ∧ St (upd V (756 + 10 * r + k) v) M' Mk ∧ upd V (756 + 10 * r + k) v 6 = nI n := ⟨_, sw_req h hn hc k v hr hk hk2⟩
theorem sa_req {V : Nat → Int32} {M Mk : xM} (h : St V M Mk) {n : Nat} (hn : V 6 = nI n) (hc : n ≤ 16) (hf : ¬ n = 16) : ∃ M', f_X6_addRow 14 15 160 M = some (nI n, M') ∧ St (upd V 6 (nI (n + 1))) M' Mk ∧ upd V 6 (nI (n + 1)) 6 = nI (n + 1) := ⟨_, (s_add_req h hn hc hf).1, (s_add_req h hn hc hf).2, upd_eq⟩
theorem str_e (a b c : Int32) : f_X8_isStretch a b c = some (bI (0 ≤ a ∧ a < b ∧ b ≤ c)) := by
  unfold f_X8_isStretch bI
  by_cases h1 : a < 0
  · rw [if_pos h1, if_neg (fun z => absurd z.1 (Int32.not_le.mpr h1))]
  · rw [if_neg h1]
    by_cases h2 : b ≤ a
    · rw [if_pos h2, if_neg (fun z => absurd z.2.1 (Int32.not_lt.mpr h2))]
    · rw [if_neg h2]
      by_cases h3 : c < b
      · rw [if_pos h3, if_neg (fun z => absurd z.2.2 (Int32.not_le.mpr h3))]
      · rw [if_neg h3, if_pos ⟨Int32.not_lt.mp h1, Int32.not_le.mp h2, Int32.not_lt.mp h3⟩]
theorem exc9_e {V : Nat → Int32} {M : xM} (h : M 150 = V) {r : Nat} (hr : r < 16) (a b : Int32) : f_X9_isExcerpt M (nI r) a b = some (bI (0 ≤ a ∧ a < b ∧ b ≤ V (84 + 5 * r + 3) - V (84 + 5 * r + 2))) := by
  have e : f_X9_isExcerpt M (nI r) a b = f_X8_isStretch a b (V (84 + 5 * r + 3) - V (84 + 5 * r + 2)) := by
    unfold f_X9_isExcerpt f_X8_isStretch
    simp (disch := omega) only [ite_true, IM, IA, IR, IC, IN, nI_add, pk_mul, xin_n, cl_n, xgd_n, ↓xl_n, xb_n, xb2_n, xw_wV, wV_150, h]
  rw [e, str_e]
theorem len_e {V : Nat → Int32} {M : xM} (h : Vw V M) {r : Nat} (hr : r < nN V 3) : f_X8_lengthOfRecording M (nI r) = some (V (84 + 5 * r + 3) - V (84 + 5 * r + 2)) := by
  unfold f_X8_lengthOfRecording
  rw [g_rec_3 h hr, xb_n, g_rec_2 h hr, xb_n]
/-- an excerpt that may be asked for -/
def exP (V : Nat → Int32) (r : Nat) (a1 a3 a4 a5 : Int32) : Prop := (0 ≤ a1 ∧ a1 ≤ 7) ∧ (0 ≤ a3 ∧ a3 < a4 ∧ a4 ≤ V (84 + 5 * r + 3) - V (84 + 5 * r + 2)) ∧ (0 ≤ a5 ∧ a5 ≤ 2)
theorem eoe8_no {V : Nat → Int32} {M : xM} (h : Vw V M) {a2 : Int32} (hx : ¬ xin a2 (nN V 3) = true) (a1 a3 a4 a5 : Int32) : f_X8_errorOfExcerpt M a1 a2 a3 a4 a5 = some (-1) := by
  unfold f_X8_errorOfExcerpt
  rw [has_rec h, xb_n, ifb0, if_neg hx]
theorem eoe8_ok {V : Nat → Int32} {M : xM} (h : Vw V M) {r : Nat} (hr : r < nN V 3) {a1 a3 a4 a5 : Int32} (p : exP V r a1 a3 a4 a5) : f_X8_errorOfExcerpt M a1 (nI r) a3 a4 a5 = some 0 := by
  have hx : xin (nI r) (nN V 3) = true := xin_n hr (by have := ok_c3 (v_ok h); omega)
  unfold f_X8_errorOfExcerpt f_X8_errorOfExcerpt_50
  simp only [has_rec h, xb_n, ifb0, if_pos hx, per_e, if_pos p.1, len_e h hr, str_e, if_pos p.2.1, use_e, if_pos p.2.2, xl_n]
  rfl
theorem eoe8_bad {V : Nat → Int32} {M : xM} (h : Vw V M) {r : Nat} (hr : r < nN V 3) {a1 a3 a4 a5 : Int32} (p : ¬ exP V r a1 a3 a4 a5) : f_X8_errorOfExcerpt M a1 (nI r) a3 a4 a5 = some (-2) := by
  have hx : xin (nI r) (nN V 3) = true := xin_n hr (by have := ok_c3 (v_ok h); omega)
  unfold f_X8_errorOfExcerpt f_X8_errorOfExcerpt_49 f_X8_errorOfExcerpt_50
  simp only [has_rec h, xb_n, ifb0, if_pos hx, per_e, len_e h hr, str_e, use_e, xl_n, if_true]
  by_cases p1 : 0 ≤ a1 ∧ a1 ≤ 7
  · rw [if_pos p1]
    by_cases p2 : 0 ≤ a3 ∧ a3 < a4 ∧ a4 ≤ V (84 + 5 * r + 3) - V (84 + 5 * r + 2)
    · rw [if_pos p2, if_neg (fun z => p ⟨p1, p2, z⟩)]
    · rw [if_neg p2]
  · rw [if_neg p1]
theorem eoe9_no {V : Nat → Int32} {M : xM} (h : M 150 = V) (ho : Ok V) {a2 : Int32} (hx : ¬ xin a2 (nN V 3) = true) (a1 a3 a4 a5 : Int32) : f_X9_errorOfExcerpt M a1 a2 a3 a4 a5 = some (-1) := by
  unfold f_X9_errorOfExcerpt
  rw [one9_3 h ho, xb_n, ifb0, if_neg hx]
theorem eoe9_ok {V : Nat → Int32} {M : xM} (h : M 150 = V) (ho : Ok V) {r : Nat} (hr : r < nN V 3) {a1 a3 a4 a5 : Int32} (p : exP V r a1 a3 a4 a5) : f_X9_errorOfExcerpt M a1 (nI r) a3 a4 a5 = some 0 := by
  have c3 := ok_c3 ho
  have hx : xin (nI r) (nN V 3) = true := xin_n hr (by omega)
  unfold f_X9_errorOfExcerpt
  simp only [one9_3 h ho, xb_n, ifb0, if_pos hx, in_e, wi_e, if_pos p.1, exc9_e h (show r < 16 by omega), if_pos p.2.1, if_pos p.2.2]
theorem eoe9_bad {V : Nat → Int32} {M : xM} (h : M 150 = V) (ho : Ok V) {r : Nat} (hr : r < nN V 3) {a1 a3 a4 a5 : Int32} (p : ¬ exP V r a1 a3 a4 a5) : f_X9_errorOfExcerpt M a1 (nI r) a3 a4 a5 = some (-2) := by
  have c3 := ok_c3 ho
  have hx : xin (nI r) (nN V 3) = true := xin_n hr (by omega)
  unfold f_X9_errorOfExcerpt
  simp only [one9_3 h ho, xb_n, ifb0, if_pos hx, in_e, wi_e, exc9_e h (show r < 16 by omega)]
  by_cases p1 : 0 ≤ a1 ∧ a1 ≤ 7
  · rw [if_pos p1]
    by_cases p2 : 0 ≤ a3 ∧ a3 < a4 ∧ a4 ≤ V (84 + 5 * r + 3) - V (84 + 5 * r + 2)
    · rw [if_pos p2, if_neg (fun z => p ⟨p1, p2, z⟩)]
    · rw [if_neg p2]
  · rw [if_neg p1]
/-- Int32 between: as numbers -/
theorem rg_of {x : Int32} {a b : Int32} (h : a ≤ x ∧ x ≤ b) : rg x a.toInt b.toInt := ⟨Int32.le_iff_toInt_le.mp h.1, Int32.le_iff_toInt_le.mp h.2⟩
theorem nI_ex {x : Int32} {n : Nat} (hn : n < 2147483648) (h : 0 ≤ x ∧ x ≤ nI n) : ∃ k, k ≤ n ∧ x = nI k := by
  refine rg_ex (n := n) ⟨Int32.le_iff_toInt_le.mp h.1, ?_⟩ hn
  have := Int32.le_iff_toInt_le.mp h.2
  rwa [nI_toInt (by simpa using hn)] at this
theorem sub_rg {x y : Int32} {a b : Int} (h1 : rg x 0 a) (h2 : rg y 0 b) (ha : a < 1000000) (hb : b < 1000000) : (x - y).toInt = x.toInt - y.toInt := by
  have h1a := h1.1; have h1b := h1.2; have h2a := h2.1; have h2b := h2.2
  rw [Int32.toInt_sub, Int.bmod_eq_of_le (by omega) (by omega)]
theorem ex_rg {V : Nat → Int32} (ho : Ok V) {r : Nat} (hr : r < nN V 3) {a b : Int32} (h : 0 ≤ a ∧ a < b ∧ b ≤ V (84 + 5 * r + 3) - V (84 + 5 * r + 2)) : rg a 0 3600 ∧ rg b 0 3600 := by
  have hR := ho.2.2.2.1 r hr
  have e := sub_rg hR.2.2.2.2.1 hR.2.2.2.1 (by decide) (by decide)
  have h1 := Int32.le_iff_toInt_le.mp h.1
  have h2 := Int32.lt_iff_toInt_lt.mp h.2.1
  have h3 := Int32.le_iff_toInt_le.mp h.2.2
  rw [e] at h3
  have a1 := hR.2.2.2.2.1.2
  have a2 := hR.2.2.2.1.1
  have z : (0 : Int32).toInt = 0 := rfl
  unfold rg
  omega
theorem op_request {M : xM} (hR : Rl M) (a1 a2 a3 a4 a5 a6 : Int32) : Op2 (fun m => f_X8_request m a1 a2 a3 a4 a5 a6) (fun m => f_X9_request m a1 a2 a3 a4 a5 a6) M := by
  have hv := Rl_vw hR
  have ho := v_ok hv
  have c6 := ok_c6 ho
  have c5 := ok_c5 ho
  have c3 := ok_c3 ho
  have c1 := ok_c1 ho
  unfold Op2 f_X8_request f_X9_request
  by_cases hx : xin a2 (nN (M 150) 3) = true
  case neg => exact ⟨-1, M, M, by simp only [eoe8_no hv hx, xb_n, xl_n]; rw [if_neg (by decide)], by simp only [one9_3 rfl ho, xb_n, ifb0, if_neg hx], hR⟩
  obtain ⟨r, hr, rfl⟩ := xin_ex hx (by omega)
  have hr2 : r < 16 := by omega
  by_cases p1 : 0 ≤ a1 ∧ a1 ≤ 7
  case neg => exact ⟨-2, M, M, by simp only [eoe8_bad hv hr (fun (z : exP _ r a1 a3 a4 a5) => p1 z.1), xb_n, xl_n]; rw [if_neg (by decide)], by simp only [one9_3 rfl ho, in_e, wi_e, xb_n, ifb0, if_pos hx, if_neg p1], hR⟩
  by_cases p2 : 0 ≤ a3 ∧ a3 < a4 ∧ a4 ≤ M 150 (84 + 5 * r + 3) - M 150 (84 + 5 * r + 2)
  case neg => exact ⟨-2, M, M, by simp only [eoe8_bad hv hr (fun (z : exP _ r a1 a3 a4 a5) => p2 z.2.1), xb_n, xl_n]; rw [if_neg (by decide)], by simp only [one9_3 rfl ho, in_e, wi_e, xb_n, ifb0, if_pos hx, if_pos p1, exc9_e rfl hr2, if_neg p2], hR⟩
  by_cases p3 : 0 ≤ a5 ∧ a5 ≤ 2
  case neg => exact ⟨-2, M, M, by simp only [eoe8_bad hv hr (fun (z : exP _ r a1 a3 a4 a5) => p3 z.2.2), xb_n, xl_n]; rw [if_neg (by decide)], by simp only [one9_3 rfl ho, in_e, wi_e, xb_n, ifb0, if_pos hx, if_pos p1, exc9_e rfl hr2, if_pos p2, if_neg p3], hR⟩
  have pp : exP (M 150) r a1 a3 a4 a5 := ⟨p1, p2, p3⟩
  by_cases p4 : 1 ≤ a6 ∧ a6 ≤ 100
  case neg => exact ⟨-2, M, M, by simp only [eoe8_ok hv hr pp, xb_n, xl_n, if_true, wi_e, ifb0, if_neg p4], by simp only [one9_3 rfl ho, in_e, wi_e, xb_n, ifb0, if_pos hx, if_pos p1, exc9_e rfl hr2, if_pos p2, if_pos p3, if_neg p4], hR⟩
  have hfull := s_full_req (St_0 hv hR.2.1) (ok_n6 ho) c6
  by_cases p5 : nN (M 150) 6 = 16
  case pos =>
    have v16 : M 150 6 = 16 := by rw [ok_n6 ho, p5]; rfl
    exact ⟨-4, M, M, by simp only [eoe8_ok hv hr pp, xb_n, xl_n, if_true, wi_e, ifb0, if_pos p4, hfull, if_pos p5], by simp only [one9_3 rfl ho, in_e, wi_e, xb_n, ifb0, if_pos hx, if_pos p1, exc9_e rfl hr2, if_pos p2, if_pos p3, if_pos p4, IN, xgd_n, IC, v16, if_true], hR⟩
  obtain ⟨Mk, k1, hk, hc⟩ := do_op hR
  have h0 := St_0 hk hR.2.1
  generalize hn : nN (M 150) 6 = n at *
  have v6 : M 150 6 = nI n := by rw [← hn]; exact ok_n6 ho
  obtain ⟨M1, e1, h1, n1⟩ := sa_req h0 v6 c6 p5
  obtain ⟨M2, e2, h2, n2⟩ := sx_req h1 n1 (by omega) (r := n) (c := 0) 0 0 (by omega) rfl (by decide)
  obtain ⟨M3, e3, h3, n3⟩ := sx_req h2 n2 (by omega) (r := n) (c := 1) 1 a1 (by omega) rfl (by decide)
  obtain ⟨M4, e4, h4, n4⟩ := sx_req h3 n3 (by omega) (r := n) (c := 2) 2 (nI r) (by omega) rfl (by decide)
  obtain ⟨M5, e5, h5, n5⟩ := sx_req h4 n4 (by omega) (r := n) (c := 3) 3 a3 (by omega) rfl (by decide)
  obtain ⟨M6, e6, h6, n6⟩ := sx_req h5 n5 (by omega) (r := n) (c := 4) 4 a4 (by omega) rfl (by decide)
  obtain ⟨M7, e7, h7, n7⟩ := sx_req h6 n6 (by omega) (r := n) (c := 5) 5 a5 (by omega) rfl (by decide)
  obtain ⟨M8, e8, h8, n8⟩ := sx_req h7 n7 (by omega) (r := n) (c := 6) 6 a6 (by omega) rfl (by decide)
  have td : M8 1 8 = M 150 0 := (s_today h8).trans (by simp (disch := omega) only [upd_ne])
  obtain ⟨M9, e9, h9, n9⟩ := sx_req h8 n8 (by omega) (r := n) (c := 7) 7 (xmn (M 150 0 + 30) 9999) (by omega) rfl (by decide)
  obtain ⟨M10, e10, h10, n10⟩ := sx_req h9 n9 (by omega) (r := n) (c := 8) 8 (-6) (by omega) rfl (by decide)
  have d1 := St_der h10 hk (by simp (disch := omega) only [upd_ne]) (by simp (disch := omega) only [upd_ne]) (fun j _ _ => by simp (disch := omega) only [upd_ne]) (fun r _ => ⟨by simp (disch := omega) only [upd_ne], by simp (disch := omega) only [upd_ne]⟩) (fun r _ => by simp (disch := omega) only [upd_ne])
  have hz : M 150 (756 + 10 * n + 9) = 0 := ho.2.2.2.2.2.2.2.2.2.2 n (by omega) (by omega)
  generalize hV2 : upd (upd (upd (upd (upd (upd (upd (upd (upd (upd (M 150) 6 (nI (n + 1))) (756 + 10 * n + 0) 0) (756 + 10 * n + 1) a1) (756 + 10 * n + 2) (nI r)) (756 + 10 * n + 3) a3) (756 + 10 * n + 4) a4) (756 + 10 * n + 5) a5) (756 + 10 * n + 6) a6) (756 + 10 * n + 7) (xmn (M 150 0 + 30) 9999)) (756 + 10 * n + 8) (-6) = V2 at *
  have eo : ∀ j, j ≠ 6 → (j < 756 + 10 * n ∨ 756 + 10 * n + 9 ≤ j) → V2 j = M 150 j := fun j g1 g2 => by rw [← hV2]; simp (disch := omega) only [upd_ne]
  have x6 : nN V2 6 = n + 1 := nN_of n10 (by omega)
  have x5 : nN V2 5 = nN (M 150) 5 := by unfold nN; rw [eo 5 (by omega) (by omega)]
  have x3 : nN V2 3 = nN (M 150) 3 := by unfold nN; rw [eo 3 (by omega) (by omega)]
  obtain ⟨k1', hk1', ek1⟩ := nI_ex (n := 7) (by decide) p1
  have hq1 : V2 (756 + 10 * n + 1) = nI k1' := by rw [← hV2, ← ek1]; simp (disch := omega) only [upd_ne, upd_eq]
  have hq2 : V2 (756 + 10 * n + 2) = nI r := by rw [← hV2]; simp (disch := omega) only [upd_ne, upd_eq]
  have h13 := ho.1.2.2.2.2.2.2.2.2.2.2.2.2
  have hdue : rg (xmn (M 150 0 + 30) 9999) 0 9999 := by
    obtain ⟨g1, g2⟩ := h13
    have e30 : (M 150 0 + 30 : Int32).toInt = (M 150 0).toInt + 30 := by
      rw [Int32.toInt_add, show (30 : Int32).toInt = 30 from rfl, Int.bmod_eq_of_le (by omega) (by omega)]
    unfold xmn rg
    by_cases q : (9999 : Int32) < M 150 0 + 30
    · rw [if_pos q]; exact ⟨by decide, by decide⟩
    · rw [if_neg q, e30]
      have := Int32.le_iff_toInt_le.mp (Int32.not_lt.mp q)
      rw [e30] at this
      exact ⟨by omega, this⟩
  have o1 : Ok V2 := by
    refine Ok_hi ho (fun j _ _ _ _ _ => eo j (by omega) (by omega)) (by rw [x5, eo 5 (by omega) (by omega)]; exact ok_n5 ho) (by rw [x5]; exact c5) (by rw [x6]; exact n10) (by rw [x6]; omega) (fun q hq => ?_) (fun q hq hq3 => ?_) (fun q hq => ?_) (fun q hq hq3 => ?_)
    · rw [x5] at hq; rw [eo _ (by omega) (by omega)]; exact ho.2.2.2.2.2.2.2.1 q hq
    · rw [x5] at hq; rw [eo _ (by omega) (by omega)]; exact ho.2.2.2.2.2.2.2.2.1 q hq hq3
    · rw [x6] at hq
      by_cases hqn : q = n
      · subst hqn
        have y1 : nN V2 (756 + 10 * q + 1) = k1' := nN_of hq1 (by omega)
        have y2 : nN V2 (756 + 10 * q + 2) = r := nN_of hq2 (by omega)
        unfold OkQ
        rw [y1, y2, x3]
        refine ⟨hq1, by omega, hq2, hr, ?_, ?_, ?_, ?_, ?_, fun _ => ?_⟩
        · rw [← hV2]; simp (disch := omega) only [upd_ne, upd_eq]; exact (ex_rg ho hr p2).1
        · rw [← hV2]; simp (disch := omega) only [upd_ne, upd_eq]; exact (ex_rg ho hr p2).2
        · rw [← hV2]; simp (disch := omega) only [upd_ne, upd_eq]; exact rg_of p3
        · rw [← hV2]; simp (disch := omega) only [upd_ne, upd_eq]; exact rg_of p4
        · rw [← hV2]; simp (disch := omega) only [upd_ne, upd_eq]; exact hdue
        · rw [eo _ (by omega) (by omega)]; exact hz
      · exact OkQ_c (ho.2.2.2.2.2.2.2.2.2.1 q (by omega)) (by omega) (fun c hc => eo _ (by omega) (by omega))
    · rw [x6] at hq; rw [eo _ (by omega) (by omega)]; exact ho.2.2.2.2.2.2.2.2.2.2 q (by omega) hq3
  obtain ⟨f1, f2, Mr, f3, f4⟩ := hc _ _ h10 d1 o1
  refine ⟨nI n, M10, wV Mr V2, ?_, ?_, f4⟩
  · simp only [eoe8_ok hv hr pp, xb_n, xb2_n, xl_n, if_true, wi_e, ifb0, if_pos p4, hfull, if_neg p5, k1, e1, e2, e3, e4, e5, e6, e7, e8, td, e9, e10]
  · simp only [one9_3 f1 ho, in_e, wi_e, xb_n, ifb0, if_pos hx, if_pos p1, exc9_e f1 hr2, if_pos p2, if_pos p3, if_pos p4, IN, xgd_n, IC, f1, v6]
    rw [if_neg (by rw [li_16, eq_n (by omega) (by decide)]; exact p5), f3, xb_n]
    simp (disch := omega) only [ite_true, IM, IA, IR, IC, IN, nI_add, pk_mul, xin_n, cl_n, xgd_n, ↓xl_n, xb_n, xb2_n, xw_wV, wV_150, v6, upd_ne, upd_eq, nI_pred]
    have fin : ∀ x, x = xmn (M 150 0 + 30) 9999 → upd (upd (upd (upd (upd (upd (upd (upd (upd (upd (upd (M 150) (756 + 10 * n) 0) (756 + 10 * n + 1) a1) (756 + 10 * n + 2) (nI r)) (756 + 10 * n + 3) a3) (756 + 10 * n + 4) a4) (756 + 10 * n + 5) a5) (756 + 10 * n + 6) a6) (756 + 10 * n + 7) x) (756 + 10 * n + 8) (-6)) (756 + 10 * n + 9) 0) 6 (nI (n + 1)) = V2 := by
      intro x hx
      rw [← hV2, hx, upd_id (k := 756 + 10 * n + 9) (x := 0) (by simp (disch := omega) only [upd_ne]; exact hz)]
      simp (disch := omega) only [upd_out 6, Nat.add_zero]
    unfold f_X9_request_202
    by_cases q : M 150 0 + 30 ≤ 9999
    · rw [if_pos q]
      simp (disch := omega) only [ite_true, IM, IA, IR, IC, IN, nI_add, pk_mul, xin_n, cl_n, xgd_n, ↓xl_n, xb_n, xb2_n, xw_wV, wV_150, v6, upd_ne, upd_eq, nI_pred]
      rw [fin _ (by unfold xmn; rw [if_neg (Int32.not_lt.mpr q)])]
    · rw [if_neg q]
      simp (disch := omega) only [ite_true, IM, IA, IR, IC, IN, nI_add, pk_mul, xin_n, cl_n, xgd_n, ↓xl_n, xb_n, xb2_n, xw_wV, wV_150, v6, upd_ne, upd_eq, nI_pred]
      rw [fin _ (by unfold xmn; rw [if_pos (Int32.not_le.mp q)])]
