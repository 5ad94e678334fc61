def wV (M : xM) (V : Nat → Int32) : xM := fun k => if k = 150 then V else M k
theorem wV_150 {M : xM} {V : Nat → Int32} : wV M V 150 = V := by unfold wV; rw [if_pos (Eq.refl 150)]
theorem wV_ne {M : xM} {V : Nat → Int32} {k : Nat} (h : k ≠ 150) : wV M V k = M k := by unfold wV; rw [if_neg h]
theorem xw_wV {M : xM} {V : Nat → Int32} {j : Nat} {x : Int32} : xw (wV M V) 150 j x = wV M (upd V j x) := by
  funext a b
  unfold xw wV upd
  by_cases h : a = 150
  · subst h; simp
  · simp [h]
theorem upd_out (k : Nat) {V : Nat → Int32} {a : Nat} {x y : Int32} (h : a ≠ k) : upd (upd V k x) a y = upd (upd V a y) k x := by
  funext j
  unfold upd
  by_cases h1 : j = a
  · subst h1; simp [h]
  · simp [h1]
theorem upd_id {V : Nat → Int32} {k : Nat} {x : Int32} (h : V k = x) : upd V k x = V := by
  funext j
  unfold upd
  by_cases h1 : j = k
  · subst h1; simp [h]
  · simp [h1]
theorem nN_of {V : Nat → Int32} {k n : Nat} (h : V k = nI n) (hn : n < 2147483648) : nN V k = n := by unfold nN; rw [h]; exact cl_n hn
theorem sw_car {V : Nat → Int32} {M Mk : xM} (h : St V M Mk) {n : Nat} (hn : V 1 = nI n) (hc : n ≤ 8) {r : Nat} {c : Int32} (k : Nat) (v : Int32) (hr : r < n) (hk : c = nI k) (hk2 : k < 5) : f_X6_set 2 3 56 M (nI r) c v = some (xw M 3 (r * 7 + k) v) ∧ St (upd V (24 + 5 * r + k) v) (xw M 3 (r * 7 + k) v) Mk ∧ upd V (24 + 5 * r + k) v 1 = nI n :=
  ⟨s_setk_car h hn hc k v hr hk (by omega), w_car h (by omega) hk2 v, by rw [upd_ne (by omega)]; exact hn⟩
theorem sw_mac {V : Nat → Int32} {M Mk : xM} (h : St V M Mk) {n : Nat} (hn : V 2 = nI n) (hc : n ≤ 4) {r : Nat} {c : Int32} (k : Nat) (v : Int32) (hr : r < n) (hk : c = nI k) (hk2 : k < 5) : f_X6_set 4 5 24 M (nI r) c v = some (xw M 5 (r * 6 + k) v) ∧ St (upd V (64 + 5 * r + k) v) (xw M 5 (r * 6 + k) v) Mk ∧ upd V (64 + 5 * r + k) v 2 = nI n :=
  ⟨s_setk_mac h hn hc k v hr hk (by omega), w_mac h (by omega) hk2 v, by rw [upd_ne (by omega)]; exact hn⟩
theorem sw_rec {V : Nat → Int32} {M Mk : xM} (h : St V M Mk) {n : Nat} (hn : V 3 = nI n) (hc : n ≤ 16) {r : Nat} {c : Int32} (k : Nat) (v : Int32) (hr : r < n) (hk : c = nI k) (hk2 : k < 4) : f_X6_set 6 7 96 M (nI r) c v = some (xw M 7 (r * 6 + k) v) ∧ St (upd V (84 + 5 * r + k) v) (xw M 7 (r * 6 + k) v) Mk ∧ upd V (84 + 5 * r + k) v 3 = nI n :=
  ⟨s_setk_rec h hn hc k v hr hk (by omega), w_rec h (by omega) hk2 v, by rw [upd_ne (by omega)]; exact hn⟩
theorem sw_pas {V : Nat → Int32} {M Mk : xM} (h : St V M Mk) {n : Nat} (hn : V 4 = nI n) (hc : n ≤ 24) {r : Nat} {c : Int32} (k : Nat) (v : Int32) (hr : r < n) (hk : c = nI k) (hk2 : k < 5) : f_X6_set 10 11 264 M (nI r) c v = some (xw M 11 (r * 11 + k) v) ∧ St (upd V (420 + 9 * r + k) v) (xw M 11 (r * 11 + k) v) Mk ∧ upd V (420 + 9 * r + k) v 4 = nI n :=
  ⟨s_setk_pas h hn hc k v hr hk (by omega), w_pas h (by omega) hk2 v, by rw [upd_ne (by omega)]; exact hn⟩
theorem sw_per {V : Nat → Int32} {M Mk : xM} (h : St V M Mk) {n : Nat} (hn : V 5 = nI n) (hc : n ≤ 24) {r : Nat} {c : Int32} (k : Nat) (v : Int32) (hr : r < n) (hk : c = nI k) (hk2 : k < 5) : f_X6_set 12 13 120 M (nI r) c v = some (xw M 13 (r * 5 + k) v) ∧ St (upd V (636 + 5 * r + k) v) (xw M 13 (r * 5 + k) v) Mk ∧ upd V (636 + 5 * r + k) v 5 = nI n :=
  ⟨s_setk_per h hn hc k v hr hk (by omega), w_per h (by omega) hk2 v, by rw [upd_ne (by omega)]; exact hn⟩
theorem sw_req {V : Nat → Int32} {M Mk : xM} (h : St V M Mk) {n : Nat} (hn : V 6 = nI n) (hc : n ≤ 16) {r : Nat} {c : Int32} (k : Nat) (v : Int32) (hr : r < n) (hk : c = nI k) (hk2 : k < 10) : f_X6_set 14 15 160 M (nI r) c v = some (xw M 15 (r * 10 + k) v) ∧ St (upd V (756 + 10 * r + k) v) (xw M 15 (r * 10 + k) v) Mk ∧ upd V (756 + 10 * r + k) v 6 = nI n :=
  ⟨s_setk_req h hn hc k v hr hk (by omega), w_req h (by omega) hk2 v, by rw [upd_ne (by omega)]; exact hn⟩
theorem isOpen8 {V : Nat → Int32} {M : xM} (h : Vw V M) {r : Nat} (hr : r < nN V 6) : f_X8_isOpen M (nI r) = some (bI (V (756 + 10 * r) = 0)) := by
  unfold f_X8_isOpen bI
  rw [g_req_0 h hr, xb_e]
  split <;> rfl
theorem isOpen9 {V : Nat → Int32} {M : xM} (h : M 150 = V) {r : Nat} (hr : r < 16) : f_X9_isOpen M (nI r) = some (bI (V (756 + 10 * r) = 0)) := by
  unfold f_X9_isOpen bI
  simp (disch := omega) only [ite_true, IM, IA, IR, IC, IN, nI_add, pk_mul, xin_n, cl_n, xgd_e, xl_e, xb_e, xb2_e, xw_wV, wV_150, h]
  split <;> rfl
