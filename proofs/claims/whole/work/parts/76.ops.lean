/-! ops that change the row: the frame of each, then each -/
def wV (M : xM) (V : Nat → Int32) : xM := fun k => if k = 150 then V else M k
theorem wV_150 {M : xM} {V : Nat → Int32} : wV M V 150 = V := by unfold wV; rw [if_pos (Eq.refl 150)]
theorem wV_ne {M : xM} {V : Nat → Int32} {k : Nat} (h : k ≠ 150) : wV M V k = M k := by unfold wV; rw [if_neg h]
theorem wV_id {M : xM} : M = wV M (M 150) := by
  funext k
  unfold wV
  by_cases h : k = 150
  · rw [if_pos h, h]
  · rw [if_neg h]
theorem xw_wV {M : xM} {V : Nat → Int32} {j : Nat} {x : Int32} : xw (wV M V) 150 j x = wV M (upd V j x) := by
  funext a b
  unfold xw wV upd
  by_cases h : a = 150
  · subst h; simp
  · simp [h]
theorem upd_out (k : Nat) {V : Nat → Int32} {a : Nat} {x y : Int32} (h : a ≠ k) : upd (upd V k x) a y = upd (upd V a y) k x := by
  funext j
  unfold upd
  by_cases h1 : j = a
  · subst h1; simp [h]
  · simp [h1]
theorem upd_id {V : Nat → Int32} {k : Nat} {x : Int32} (h : V k = x) : upd V k x = V := by
  funext j
  unfold upd
  by_cases h1 : j = k
  · subst h1; simp [h]
  · simp [h1]
theorem do_op {M : xM} (hR : Rl M) : ∃ Mk, f_X1_keep M = some Mk ∧ Vw (M 150) Mk ∧ ∀ V2 M1, St V2 M1 Mk → EncDer V2 M1 1 → Ok V2 → M1 150 = M 150 ∧ RefK M1 ∧ ∃ Mr, f_X9_record M1 = some (wV Mr (M 150)) ∧ Rl (wV Mr V2) := by
  obtain ⟨Mk, k1, k2, k3, k4⟩ := do_keep hR
  refine ⟨Mk, k1, k2, fun V2 M1 hs hd ho => ?_⟩
  have e : ∀ k, 18 ≤ k → M1 k = Mk k := hs.2.2.2.1
  have e150 : M1 150 = M 150 := (e 150 (by decide)).trans (k3 150 (by omega))
  obtain ⟨Mr, r1, r2, r3, r4⟩ := k4 M1 (fun k b => e k b.1) (e 150 (by decide)) (by rw [e 141 (by decide)]) (by rw [e 149 (by decide)]) (by rw [e 149 (by decide)])
  have r150 : Mr 150 = M 150 := (r2 150 (by decide) (by decide)).trans e150
  refine ⟨e150, RefK_fr hR.2.2.2.1 ((e 155 (by decide)).trans (k3 155 (by omega))) ((e 156 (by decide)).trans (k3 156 (by omega))), Mr, by rw [← r150, ← wV_id]; exact r1, r4 _ (fun k b => wV_ne (by unfold fr at b; omega)) (by rw [wV_ne (by decide)]) (by rw [wV_ne (by decide)]) (by rw [wV_ne (by decide)]) ?_ hs.2.2.1 ?_⟩
  · exact Enc_of ⟨hs.1, hd, ho⟩ (Lk_same (fun k _ _ => by rw [wV_ne (by omega), r2 k (by omega) (by omega)]))
  · exact Col_same (fun k _ _ => by rw [wV_ne (by omega), r2 k (by omega) (by omega)]) hs.2.1
theorem one9_1 {V : Nat → Int32} {M : xM} (h : M 150 = V) (ho : Ok V) (a : Int32) : f_X9_isOne M 1 a = some (bI (xin a (nN V 1) = true)) := isOne_e (w := 1) (i := 1) h rfl rfl (ok_n1 ho) (by have := ok_c1 ho; omega) a
theorem one9_2 {V : Nat → Int32} {M : xM} (h : M 150 = V) (ho : Ok V) (a : Int32) : f_X9_isOne M 2 a = some (bI (xin a (nN V 2) = true)) := isOne_e (w := 2) (i := 2) h rfl rfl (ok_n2 ho) (by have := ok_c2 ho; omega) a
theorem one9_3 {V : Nat → Int32} {M : xM} (h : M 150 = V) (ho : Ok V) (a : Int32) : f_X9_isOne M 3 a = some (bI (xin a (nN V 3) = true)) := isOne_e (w := 3) (i := 3) h rfl rfl (ok_n3 ho) (by have := ok_c3 ho; omega) a
theorem one9_4 {V : Nat → Int32} {M : xM} (h : M 150 = V) (ho : Ok V) (a : Int32) : f_X9_isOne M 4 a = some (bI (xin a (nN V 4) = true)) := isOne_e (w := 4) (i := 4) h rfl rfl (ok_n4 ho) (by have := ok_c4 ho; omega) a
theorem one9_5 {V : Nat → Int32} {M : xM} (h : M 150 = V) (ho : Ok V) (a : Int32) : f_X9_isOne M 5 a = some (bI (xin a (nN V 5) = true)) := isOne_e (w := 5) (i := 5) h rfl rfl (ok_n5 ho) (by have := ok_c5 ho; omega) a
theorem one9_6 {V : Nat → Int32} {M : xM} (h : M 150 = V) (ho : Ok V) (a : Int32) : f_X9_isOne M 6 a = some (bI (xin a (nN V 6) = true)) := isOne_e (w := 6) (i := 6) h rfl rfl (ok_n6 ho) (by have := ok_c6 ho; omega) a
theorem nN_of {V : Nat → Int32} {k n : Nat} (h : V k = nI n) (hn : n < 2147483648) : nN V k = n := by unfold nN; rw [h]; exact cl_n hn
theorem sw_car {V : Nat → Int32} {M Mk : xM} (h : St V M Mk) {n : Nat} (hn : V 1 = nI n) (hc : n ≤ 8) {r : Nat} {c : Int32} (k : Nat) (v : Int32) (hr : r < n) (hk : c = nI k) (hk2 : k < 5) : f_X6_set 2 3 56 M (nI r) c v = some (xw M 3 (r * 7 + k) v) ∧ St (upd V (24 + 5 * r + k) v) (xw M 3 (r * 7 + k) v) Mk ∧ upd V (24 + 5 * r + k) v 1 = nI n :=
  ⟨s_setk_car h hn hc k v hr hk (by omega), w_car h (by omega) hk2 v, by rw [upd_ne (by omega)]; exact hn⟩
theorem sw_mac {V : Nat → Int32} {M Mk : xM} (h : St V M Mk) {n : Nat} (hn : V 2 = nI n) (hc : n ≤ 4) {r : Nat} {c : Int32} (k : Nat) (v : Int32) (hr : r < n) (hk : c = nI k) (hk2 : k < 5) : f_X6_set 4 5 24 M (nI r) c v = some (xw M 5 (r * 6 + k) v) ∧ St (upd V (64 + 5 * r + k) v) (xw M 5 (r * 6 + k) v) Mk ∧ upd V (64 + 5 * r + k) v 2 = nI n :=
  ⟨s_setk_mac h hn hc k v hr hk (by omega), w_mac h (by omega) hk2 v, by rw [upd_ne (by omega)]; exact hn⟩
theorem sw_rec {V : Nat → Int32} {M Mk : xM} (h : St V M Mk) {n : Nat} (hn : V 3 = nI n) (hc : n ≤ 16) {r : Nat} {c : Int32} (k : Nat) (v : Int32) (hr : r < n) (hk : c = nI k) (hk2 : k < 4) : f_X6_set 6 7 96 M (nI r) c v = some (xw M 7 (r * 6 + k) v) ∧ St (upd V (84 + 5 * r + k) v) (xw M 7 (r * 6 + k) v) Mk ∧ upd V (84 + 5 * r + k) v 3 = nI n :=
  ⟨s_setk_rec h hn hc k v hr hk (by omega), w_rec h (by omega) hk2 v, by rw [upd_ne (by omega)]; exact hn⟩
theorem sw_pas {V : Nat → Int32} {M Mk : xM} (h : St V M Mk) {n : Nat} (hn : V 4 = nI n) (hc : n ≤ 24) {r : Nat} {c : Int32} (k : Nat) (v : Int32) (hr : r < n) (hk : c = nI k) (hk2 : k < 5) : f_X6_set 10 11 264 M (nI r) c v = some (xw M 11 (r * 11 + k) v) ∧ St (upd V (420 + 9 * r + k) v) (xw M 11 (r * 11 + k) v) Mk ∧ upd V (420 + 9 * r + k) v 4 = nI n :=
  ⟨s_setk_pas h hn hc k v hr hk (by omega), w_pas h (by omega) hk2 v, by rw [upd_ne (by omega)]; exact hn⟩
theorem sw_per {V : Nat → Int32} {M Mk : xM} (h : St V M Mk) {n : Nat} (hn : V 5 = nI n) (hc : n ≤ 24) {r : Nat} {c : Int32} (k : Nat) (v : Int32) (hr : r < n) (hk : c = nI k) (hk2 : k < 5) : f_X6_set 12 13 120 M (nI r) c v = some (xw M 13 (r * 5 + k) v) ∧ St (upd V (636 + 5 * r + k) v) (xw M 13 (r * 5 + k) v) Mk ∧ upd V (636 + 5 * r + k) v 5 = nI n :=
  ⟨s_setk_per h hn hc k v hr hk (by omega), w_per h (by omega) hk2 v, by rw [upd_ne (by omega)]; exact hn⟩
theorem sw_req {V : Nat → Int32} {M Mk : xM} (h : St V M Mk) {n : Nat} (hn : V 6 = nI n) (hc : n ≤ 16) {r : Nat} {c : Int32} (k : Nat) (v : Int32) (hr : r < n) (hk : c = nI k) (hk2 : k < 10) : f_X6_set 14 15 160 M (nI r) c v = some (xw M 15 (r * 10 + k) v) ∧ St (upd V (756 + 10 * r + k) v) (xw M 15 (r * 10 + k) v) Mk ∧ upd V (756 + 10 * r + k) v 6 = nI n :=
  ⟨s_setk_req h hn hc k v hr hk (by omega), w_req h (by omega) hk2 v, by rw [upd_ne (by omega)]; exact hn⟩
theorem isOpen8 {V : Nat → Int32} {M : xM} (h : Vw V M) {r : Nat} (hr : r < nN V 6) : f_X8_isOpen M (nI r) = some (bI (V (756 + 10 * r) = 0)) := by
  unfold f_X8_isOpen bI
  rw [g_req_0 h hr, xb_e]
  split <;> rfl
theorem isOpen9 {V : Nat → Int32} {M : xM} (h : M 150 = V) {r : Nat} (hr : r < 16) : f_X9_isOpen M (nI r) = some (bI (V (756 + 10 * r) = 0)) := by
  unfold f_X9_isOpen bI
  simp (disch := omega) only [ite_true, IM, IA, IR, IC, IN, nI_add, pk_mul, xin_n, cl_n, xgd_e, xl_e, xb_e, xb2_e, xw_wV, wV_150, h]
  split <;> rfl
theorem inSt9 {V : Nat → Int32} {M : xM} (h : M 150 = V) {n : Nat} (hn : V 6 = nI n) (hc : n ≤ 16) (a : Int32) : f_X9_inState M a = some (nI (cN (fun r => decide (V (756 + 10 * r) = a)) n)) := by
  have key : ∀ (d i fu : Nat), i + d = n → d < fu → f_X9_inState_4 M fu a (nI (cN (fun r => decide (V (756 + 10 * r) = a)) i)) (nI i) = some (nI (cN (fun r => decide (V (756 + 10 * r) = a)) n)) := by
    intro d
    induction d with
    | zero =>
      intro i fu e1 e2
      obtain ⟨f, rfl⟩ : ∃ f, fu = f + 1 := ⟨fu - 1, by omega⟩
      have : i = n := by omega
      subst this
      rw [f_X9_inState_4]
      simp (disch := omega) only [ite_true, IM, IA, IR, IC, IN, nI_add, pk_mul, xin_n, cl_n, xgd_e, xl_e, xb_e, xb2_e, xw_wV, wV_150, h, hn, le_n]
      rw [if_pos (Nat.le_refl _)]
    | succ d ih =>
      intro i fu e1 e2
      obtain ⟨f, rfl⟩ : ∃ f, fu = f + 1 := ⟨fu - 1, by omega⟩
      rw [f_X9_inState_4]
      simp (disch := omega) only [ite_true, IM, IA, IR, IC, IN, nI_add, pk_mul, xin_n, cl_n, xgd_e, xl_e, xb_e, xb2_e, xw_wV, wV_150, h, hn, le_n]
      rw [if_neg (by omega)]
      have hs : cN (fun r => decide (V (756 + 10 * r) = a)) (i + 1) = cN (fun r => decide (V (756 + 10 * r) = a)) i + (if decide (V (756 + 10 * i) = a) = true then 1 else 0) := rfl
      have := ih (i + 1) f (by omega) (by omega)
      rw [hs] at this
      by_cases q : V (756 + 10 * i) = a
      · rw [if_pos q]
        unfold f_X9_inState_38
        rw [xl_e, xl_e, ir_1, ir_1]
        simpa [q] using this
      · rw [if_neg q]
        unfold f_X9_inState_38
        rw [xl_e, xl_e, ir_1, ir_0]
        simpa [q] using this
  unfold f_X9_inState
  rw [xl_e, xl_e]
  exact key n 0 xFU (by omega) (by unfold xFU; omega)
theorem rv55 {V : Nat → Int32} {M : xM} (h : M 150 = V) {n : Nat} (hn : V 5 = nI n) (hc : n ≤ 24) (h01 : ∀ r, r < n → V (636 + 5 * r + 4) = 0 ∨ V (636 + 5 * r + 4) = 1) (a : Int32) : ∀ (d i fu : Nat), i + d = n → d < fu → f_X9_revoke_55 fu M a (nI (cN (fun r => decide (V (636 + 5 * r + 4) = 0)) i)) (nI i) = some (nI (cN (fun r => decide (V (636 + 5 * r + 4) = 0)) n), M) := by
  intro d
  induction d with
  | zero =>
    intro i fu e1 e2
    obtain ⟨f, rfl⟩ : ∃ f, fu = f + 1 := ⟨fu - 1, by omega⟩
    have : i = n := by omega
    subst this
    rw [f_X9_revoke_55]
    simp (disch := omega) only [ite_true, IM, IA, IR, IC, IN, nI_add, pk_mul, xin_n, cl_n, xgd_e, xl_e, xb_e, xb2_e, xw_wV, wV_150, h, hn, le_n]
    rw [if_pos (Nat.le_refl _)]
  | succ d ih =>
    intro i fu e1 e2
    obtain ⟨f, rfl⟩ : ∃ f, fu = f + 1 := ⟨fu - 1, by omega⟩
    rw [f_X9_revoke_55]
    simp (disch := omega) only [ite_true, IM, IA, IR, IC, IN, nI_add, pk_mul, xin_n, cl_n, xgd_e, xl_e, xb_e, xb2_e, xw_wV, wV_150, h, hn, le_n]
    rw [if_neg (by omega)]
    have hs : cN (fun r => decide (V (636 + 5 * r + 4) = 0)) (i + 1) = cN (fun r => decide (V (636 + 5 * r + 4) = 0)) i + (if decide (V (636 + 5 * i + 4) = 0) = true then 1 else 0) := rfl
    have := ih (i + 1) f (by omega) (by omega)
    rw [hs] at this
    rcases h01 i (by omega) with q | q
    · rw [q]
      rw [show (1 : Int32) - 0 = 1 from rfl, ir_1]
      simpa [q] using this
    · rw [q]
      rw [show (1 : Int32) - 1 = 0 from rfl, ir_0]
      simpa [q] using this
theorem op_setDue {M : xM} (hR : Rl M) (a b : Int32) : Op2 (fun m => f_X8_setDue m a b) (fun m => f_X9_setDue m a b) M := by
  have hv := Rl_vw hR
  have ho := v_ok hv
  have c6 := ok_c6 ho
  unfold Op2 f_X8_setDue f_X9_setDue
  by_cases hx : xin a (nN (M 150) 6) = true
  case neg => exact ⟨-1, M, M, by simp only [has_req hv, xb_e, ifb0, if_neg hx], by simp only [one9_6 rfl ho, xb_e, ifb0, if_neg hx], hR⟩
  obtain ⟨r, hr, rfl⟩ := xin_ex hx (by omega)
  have hr2 : r < 16 := by omega
  by_cases hw : M 150 0 ≤ b ∧ b ≤ 9999
  case neg => exact ⟨-2, M, M, by simp only [has_req hv, xb_e, ifb0, if_pos hx, v_today hv, wi_e, if_neg hw], by simp only [one9_6 rfl ho, xb_e, ifb0, if_pos hx, IN, xgd_e, in_e, IC, wi_e, if_neg hw], hR⟩
  by_cases hq : M 150 (756 + 10 * r) = 0
  case neg => exact ⟨-3, M, M, by simp only [has_req hv, xb_e, ifb0, if_pos hx, v_today hv, wi_e, if_pos hw, isOpen8 hv hr, if_neg hq], by simp only [one9_6 rfl ho, xb_e, ifb0, if_pos hx, IN, xgd_e, in_e, IC, wi_e, if_pos hw, isOpen9 rfl hr2, if_neg hq], hR⟩
  obtain ⟨Mk, k1, hk, hc⟩ := do_op hR
  have h0 := St_0 hk hR.2.1
  obtain ⟨e1, h1, -⟩ := sw_req h0 (ok_n6 ho) c6 (c := 7) 7 b hr rfl (by decide)
  have d1 := St_der h1 hk (upd_ne (by omega)) (upd_ne (by omega)) (fun j _ _ => upd_ne (by omega)) (fun r _ => ⟨upd_ne (by omega), upd_ne (by omega)⟩) (fun r _ => upd_ne (by have := ok_c1 ho; omega))
  have n5 : nN (upd (M 150) (756 + 10 * r + 7) b) 5 = nN (M 150) 5 := by unfold nN; rw [upd_ne (by omega)]
  have n6 : nN (upd (M 150) (756 + 10 * r + 7) b) 6 = nN (M 150) 6 := by unfold nN; rw [upd_ne (by omega)]
  have o1 : Ok (upd (M 150) (756 + 10 * r + 7) b) := by
    refine Ok_hi ho (fun j _ _ _ _ _ => upd_ne (by omega)) (by rw [n5, upd_ne (by omega)]; exact ok_n5 ho) (by rw [n5]; exact ok_c5 ho) (by rw [n6, upd_ne (by omega)]; exact ok_n6 ho) (by rw [n6]; exact c6) (fun q hq2 => ?_) (fun q hq2 hq3 => ?_) (fun q hq2 => ?_) (fun q hq2 hq3 => ?_)
    · rw [n5] at hq2; have := ok_c5 ho; rw [upd_ne (by omega)]; exact ho.2.2.2.2.2.2.2.1 q hq2
    · rw [n5] at hq2; rw [upd_ne (by omega)]; exact ho.2.2.2.2.2.2.2.2.1 q hq2 hq3
    · rw [n6] at hq2
      have old := ho.2.2.2.2.2.2.2.2.2.1 q hq2
      by_cases hqr : q = r
      · subst hqr
        unfold OkQ at *
        have x1 : nN (upd (M 150) (756 + 10 * q + 7) b) (756 + 10 * q + 1) = nN (M 150) (756 + 10 * q + 1) := by unfold nN; rw [upd_ne (by omega)]
        have x2 : nN (upd (M 150) (756 + 10 * q + 7) b) (756 + 10 * q + 2) = nN (M 150) (756 + 10 * q + 2) := by unfold nN; rw [upd_ne (by omega)]
        have x3 : nN (upd (M 150) (756 + 10 * q + 7) b) 3 = nN (M 150) 3 := by unfold nN; rw [upd_ne (by omega)]
        rw [x1, x2, x3, upd_eq]
        simp (disch := omega) only [upd_ne]
        refine ⟨old.1, old.2.1, old.2.2.1, old.2.2.2.1, old.2.2.2.2.1, old.2.2.2.2.2.1, old.2.2.2.2.2.2.1, old.2.2.2.2.2.2.2.1, ⟨?_, Int32.le_iff_toInt_le.mp hw.2⟩, old.2.2.2.2.2.2.2.2.2⟩
        have := Int32.le_iff_toInt_le.mp hw.1
        have h13 := ho.1.2.2.2.2.2.2.2.2.2.2.2.2.1
        omega
      · exact OkQ_c old (by unfold nN; rw [upd_ne (by omega)]; exact Nat.le_refl _) (fun c hc => upd_ne (by omega))
    · rw [n6] at hq2; rw [upd_ne (by omega)]; exact ho.2.2.2.2.2.2.2.2.2.2 q hq2 hq3
  obtain ⟨f1, f2, Mr, f3, f4⟩ := hc _ _ h1 d1 o1
  refine ⟨M 150 (756 + 10 * r + 7), xw Mk 15 (r * 10 + 7) b, _, ?_, ?_, f4⟩
  · simp only [has_req hv, xb_e, ifb0, if_pos hx, v_today hv, wi_e, if_pos hw, isOpen8 hv hr, if_pos hq, k1, g_req_7 hk hr, xl_e, e1]
  · simp (disch := omega) only [ite_true, IM, IA, IR, IC, IN, nI_add, pk_mul, xin_n, cl_n, xgd_e, xl_e, xb_e, xb2_e, xw_wV, wV_150, one9_6 f1 ho, ifb0, if_pos hx, f1, in_e, wi_e, if_pos hw, isOpen9 f1 hr2, if_pos hq, f3]
