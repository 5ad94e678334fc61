theorem xl_n {α β : Type} (x : α) (f : α → β) : xl x f = f x := Eq.trans (xl_e x f) rfl
theorem xb_n {α β : Type} (v : α) (g : α → Option β) : xb (some v) g = g v := Eq.trans (xb_e v g) rfl
theorem xb2_n {β : Type} (v : Int32) (M : xM) (g : Int32 → xM → Option β) : xb2 (some (v, M)) g = g v M := Eq.trans (xb2_e v M g) rfl
theorem xgd_n {α : Type} (a : Option α) : xgd true a = a := Eq.trans (xgd_e a) rfl
theorem fin_n (n : Nat) : Int32.ofNat n = nI n := rfl
def DS (M Mk : xM) : Prop := (∀ r c, r < 8 → 5 ≤ c → c < 7 → M 3 (r * 7 + c) = Mk 3 (r * 7 + c)) ∧ (∀ r, r < 4 → M 5 (r * 6 + 5) = Mk 5 (r * 6 + 5)) ∧ (∀ r, r < 16 → M 7 (r * 6 + 4) = Mk 7 (r * 6 + 4)) ∧ (∀ r c, r < 24 → 5 ≤ c → c < 7 → M 11 (r * 11 + c) = Mk 11 (r * 11 + c))
def St (V : Nat → Int32) (M Mk : xM) : Prop := EncRaw V M 1 ∧ EncCol M 1 ∧ Z916 V ∧ (∀ k, 18 ≤ k → M k = Mk k) ∧ DS M Mk
theorem St_0 {V : Nat → Int32} {M : xM} (h : Vw V M) (hz : Z916 V) : St V M M := ⟨h.2.1.1, h.2.2.1, hz, fun _ _ => rfl, fun _ _ _ _ _ => rfl, fun _ _ => rfl, fun _ _ => rfl, fun _ _ _ _ _ => rfl⟩
theorem T_full {t ct n rows cols : Nat} {M : xM} (h2 : M t 2 = nI rows) (h1 : M t 1 = nI cols) (hn : n < 100000) (hr : rows < 1000) (hc : cols < 100) : f_X6_isFull t ct n M = some (bI (n < (rows + 1) * cols)) := by
  have hm : (rows + 1) * cols < 1000000 := by
    have : (rows + 1) * cols ≤ 1000 * cols := Nat.mul_le_mul_right _ (by omega)
    omega
  unfold f_X6_isFull bI
  rw [h2, h1, ir_1, pk_mul, fin_n]
  by_cases q : n < (rows + 1) * cols
  · rw [if_neg (by rw [le_n (by omega) (by omega)]; omega), if_pos q]
  · rw [if_pos (by rw [le_n (by omega) (by omega)]; omega), if_neg q]
theorem T_add {t ct n rows cols : Nat} {M : xM} (h2 : M t 2 = nI rows) (h1 : M t 1 = nI cols) (hn : n < 100000) (hr : rows < 1000) (hc : cols < 100) (hf : ¬ n < (rows + 1) * cols) : f_X6_addRow t ct n M = some (nI rows, xw M t 2 (nI (rows + 1))) := by
  unfold f_X6_addRow
  rw [T_full h2 h1 hn hr hc, xb_e, ifb0, if_neg hf, xl_e, h2, ir_1]
  unfold f_X6_addRow_17
  rw [xw_same, nI_pred]
theorem T_addv {t ct n rows cols : Nat} {M : xM} (h2 : M t 2 = nI rows) (h1 : M t 1 = nI cols) {r : Nat} {c : Int32} (k : Nat) (v : Int32) (hr : r < rows) (hc : c = nI k) (hk : k < cols) (hrc : rows * cols ≤ n) (hn : n < 100000) (hrows : rows < 100000) (hcols : cols < 100000) : f_X6_add t ct n M (nI r) c v = some (xw M ct (r * cols + k) (M ct (r * cols + k) + v)) := by
  unfold f_X6_add
  rw [T_get h2 h1 k hr hc hk hrc hn hrows hcols, xb_e, T_set h2 h1 k _ hr hc hk hrc hn hrows hcols, xb_e]
theorem T_cnt {t ct n rows cols : Nat} {M : xM} (h2 : M t 2 = nI rows) (h1 : M t 1 = nI cols) {c : Int32} (k : Nat) (v : Int32) (hc : c = nI k) (hk : k < cols) (hrc : rows * cols ≤ n) (hn : n < 100000) (hrows : rows < 1000) (hcols : cols < 100000) : f_X6_countOf t ct n M c v = some (nI (cN (fun r => decide (M ct (r * cols + k) = v)) rows)) := by
  have key : ∀ (d i fu : Nat), i + d = rows → d < fu → f_X6_countOf_5 t ct n M fu c v (nI (cN (fun r => decide (M ct (r * cols + k) = v)) i)) (nI i) = some (nI (cN (fun r => decide (M ct (r * cols + k) = v)) rows)) := by
    intro d
    induction d with
    | zero =>
      intro i fu e1 e2
      obtain ⟨f, rfl⟩ : ∃ f, fu = f + 1 := ⟨fu - 1, by omega⟩
      have : i = rows := by omega
      subst this
      rw [f_X6_countOf_5, h2, if_pos (by rw [le_n (by omega) (by omega)]; exact Nat.le_refl _)]
    | succ d ih =>
      intro i fu e1 e2
      obtain ⟨f, rfl⟩ : ∃ f, fu = f + 1 := ⟨fu - 1, by omega⟩
      rw [f_X6_countOf_5, h2, if_neg (by rw [le_n (by omega) (by omega)]; omega), T_get h2 h1 k (by omega) hc hk hrc hn (by omega) hcols, xb_e]
      have hs : cN (fun r => decide (M ct (r * cols + k) = v)) (i + 1) = cN (fun r => decide (M ct (r * cols + k) = v)) i + (if decide (M ct (i * cols + k) = v) = true then 1 else 0) := rfl
      have := ih (i + 1) f (by omega) (by omega)
      rw [hs] at this
      by_cases q : M ct (i * cols + k) = v
      · rw [if_pos q, xl_e, ir_1]
        unfold f_X6_countOf_28
        rw [xl_e, ir_1]
        simpa [q] using this
      · rw [if_neg q]
        unfold f_X6_countOf_28
        rw [xl_e, ir_1]
        simpa [q] using this
  unfold f_X6_countOf
  rw [xl_e, xl_e]
  exact key rows 0 xFU (by omega) (by unfold xFU; omega)

theorem s_rows_car {V : Nat → Int32} {M Mk : xM} (h : St V M Mk) {n : Nat} (hn : V 1 = nI n) : M 2 2 = nI n := (h.1.2.2.2.2.2.2.2.2.2.2.2.2.2.1).trans hn
theorem s_full_car {V : Nat → Int32} {M Mk : xM} (h : St V M Mk) {n : Nat} (hn : V 1 = nI n) (hc : n ≤ 8) : f_X6_isFull 2 3 56 M = some (bI (n = 8)) := by
  rw [T_full (s_rows_car h hn) (h.2.1.1) (by decide) (by omega) (by decide)]
  congr 1
  unfold bI
  congr 1
  exact propext (by omega)
theorem s_add_car {V : Nat → Int32} {M Mk : xM} (h : St V M Mk) {n : Nat} (hn : V 1 = nI n) (hc : n ≤ 8) (hf : ¬ n = 8) : f_X6_addRow 2 3 56 M = some (nI n, xw M 2 2 (nI (n + 1))) ∧ St (upd V 1 (nI (n + 1))) (xw M 2 2 (nI (n + 1))) Mk := by
  refine ⟨T_add (s_rows_car h hn) (h.2.1.1) (by decide) (by omega) (by decide) (by omega), rs_n1 h.1 _, ec_set h.2.1 (by decide), z_upd h.2.2.1 (by decide), fun k hk => (xw_ne (by omega)).trans (h.2.2.2.1 k hk), fun r c a1 a2 a3 => (xw_o (by omega)).trans (h.2.2.2.2.1 r c a1 a2 a3), fun r a1 => (xw_o (by omega)).trans (h.2.2.2.2.2.1 r a1), fun r a1 => (xw_o (by omega)).trans (h.2.2.2.2.2.2.1 r a1), fun r c a1 a2 a3 => (xw_o (by omega)).trans (h.2.2.2.2.2.2.2 r c a1 a2 a3)⟩
theorem s_get_car {V : Nat → Int32} {M Mk : xM} (h : St V M Mk) {n : Nat} (hn : V 1 = nI n) (hc : n ≤ 8) {r : Nat} {c : Int32} (k : Nat) (hr : r < n) (hk : c = nI k) (hk2 : k < 7) : f_X6_get 2 3 56 M (nI r) c = some (M 3 (r * 7 + k)) := T_get (s_rows_car h hn) (h.2.1.1) k hr hk hk2 (by omega) (by decide) (by omega) (by decide)
theorem s_setk_car {V : Nat → Int32} {M Mk : xM} (h : St V M Mk) {n : Nat} (hn : V 1 = nI n) (hc : n ≤ 8) {r : Nat} {c : Int32} (k : Nat) (v : Int32) (hr : r < n) (hk : c = nI k) (hk2 : k < 7) : f_X6_set 2 3 56 M (nI r) c v = some (xw M 3 (r * 7 + k) v) := T_set (s_rows_car h hn) (h.2.1.1) k v hr hk hk2 (by omega) (by decide) (by omega) (by decide)
theorem s_addk_car {V : Nat → Int32} {M Mk : xM} (h : St V M Mk) {n : Nat} (hn : V 1 = nI n) (hc : n ≤ 8) {r : Nat} {c : Int32} (k : Nat) (v : Int32) (hr : r < n) (hk : c = nI k) (hk2 : k < 7) : f_X6_add 2 3 56 M (nI r) c v = some (xw M 3 (r * 7 + k) (M 3 (r * 7 + k) + v)) := T_addv (s_rows_car h hn) (h.2.1.1) k v hr hk hk2 (by omega) (by decide) (by omega) (by decide)
theorem s_rows_mac {V : Nat → Int32} {M Mk : xM} (h : St V M Mk) {n : Nat} (hn : V 2 = nI n) : M 4 2 = nI n := (h.1.2.2.2.2.2.2.2.2.2.2.2.2.2.2.1).trans hn
theorem s_full_mac {V : Nat → Int32} {M Mk : xM} (h : St V M Mk) {n : Nat} (hn : V 2 = nI n) (hc : n ≤ 4) : f_X6_isFull 4 5 24 M = some (bI (n = 4)) := by
  rw [T_full (s_rows_mac h hn) (h.2.1.2.1) (by decide) (by omega) (by decide)]
  congr 1
  unfold bI
  congr 1
  exact propext (by omega)
theorem s_add_mac {V : Nat → Int32} {M Mk : xM} (h : St V M Mk) {n : Nat} (hn : V 2 = nI n) (hc : n ≤ 4) (hf : ¬ n = 4) : f_X6_addRow 4 5 24 M = some (nI n, xw M 4 2 (nI (n + 1))) ∧ St (upd V 2 (nI (n + 1))) (xw M 4 2 (nI (n + 1))) Mk := by
  refine ⟨T_add (s_rows_mac h hn) (h.2.1.2.1) (by decide) (by omega) (by decide) (by omega), rs_n2 h.1 _, ec_set h.2.1 (by decide), z_upd h.2.2.1 (by decide), fun k hk => (xw_ne (by omega)).trans (h.2.2.2.1 k hk), fun r c a1 a2 a3 => (xw_o (by omega)).trans (h.2.2.2.2.1 r c a1 a2 a3), fun r a1 => (xw_o (by omega)).trans (h.2.2.2.2.2.1 r a1), fun r a1 => (xw_o (by omega)).trans (h.2.2.2.2.2.2.1 r a1), fun r c a1 a2 a3 => (xw_o (by omega)).trans (h.2.2.2.2.2.2.2 r c a1 a2 a3)⟩
theorem s_get_mac {V : Nat → Int32} {M Mk : xM} (h : St V M Mk) {n : Nat} (hn : V 2 = nI n) (hc : n ≤ 4) {r : Nat} {c : Int32} (k : Nat) (hr : r < n) (hk : c = nI k) (hk2 : k < 6) : f_X6_get 4 5 24 M (nI r) c = some (M 5 (r * 6 + k)) := T_get (s_rows_mac h hn) (h.2.1.2.1) k hr hk hk2 (by omega) (by decide) (by omega) (by decide)
theorem s_setk_mac {V : Nat → Int32} {M Mk : xM} (h : St V M Mk) {n : Nat} (hn : V 2 = nI n) (hc : n ≤ 4) {r : Nat} {c : Int32} (k : Nat) (v : Int32) (hr : r < n) (hk : c = nI k) (hk2 : k < 6) : f_X6_set 4 5 24 M (nI r) c v = some (xw M 5 (r * 6 + k) v) := T_set (s_rows_mac h hn) (h.2.1.2.1) k v hr hk hk2 (by omega) (by decide) (by omega) (by decide)
theorem s_addk_mac {V : Nat → Int32} {M Mk : xM} (h : St V M Mk) {n : Nat} (hn : V 2 = nI n) (hc : n ≤ 4) {r : Nat} {c : Int32} (k : Nat) (v : Int32) (hr : r < n) (hk : c = nI k) (hk2 : k < 6) : f_X6_add 4 5 24 M (nI r) c v = some (xw M 5 (r * 6 + k) (M 5 (r * 6 + k) + v)) := T_addv (s_rows_mac h hn) (h.2.1.2.1) k v hr hk hk2 (by omega) (by decide) (by omega) (by decide)
theorem s_rows_rec {V : Nat → Int32} {M Mk : xM} (h : St V M Mk) {n : Nat} (hn : V 3 = nI n) : M 6 2 = nI n := (h.1.2.2.2.2.2.2.2.2.2.2.2.2.2.2.2.1).trans hn
theorem s_full_rec {V : Nat → Int32} {M Mk : xM} (h : St V M Mk) {n : Nat} (hn : V 3 = nI n) (hc : n ≤ 16) : f_X6_isFull 6 7 96 M = some (bI (n = 16)) := by
  rw [T_full (s_rows_rec h hn) (h.2.1.2.2.1) (by decide) (by omega) (by decide)]
  congr 1
  unfold bI
  congr 1
  exact propext (by omega)
theorem s_add_rec {V : Nat → Int32} {M Mk : xM} (h : St V M Mk) {n : Nat} (hn : V 3 = nI n) (hc : n ≤ 16) (hf : ¬ n = 16) : f_X6_addRow 6 7 96 M = some (nI n, xw M 6 2 (nI (n + 1))) ∧ St (upd V 3 (nI (n + 1))) (xw M 6 2 (nI (n + 1))) Mk := by
  refine ⟨T_add (s_rows_rec h hn) (h.2.1.2.2.1) (by decide) (by omega) (by decide) (by omega), rs_n3 h.1 _, ec_set h.2.1 (by decide), z_upd h.2.2.1 (by decide), fun k hk => (xw_ne (by omega)).trans (h.2.2.2.1 k hk), fun r c a1 a2 a3 => (xw_o (by omega)).trans (h.2.2.2.2.1 r c a1 a2 a3), fun r a1 => (xw_o (by omega)).trans (h.2.2.2.2.2.1 r a1), fun r a1 => (xw_o (by omega)).trans (h.2.2.2.2.2.2.1 r a1), fun r c a1 a2 a3 => (xw_o (by omega)).trans (h.2.2.2.2.2.2.2 r c a1 a2 a3)⟩
theorem s_cnt_rec {V : Nat → Int32} {M Mk : xM} (h : St V M Mk) {n : Nat} (hn : V 3 = nI n) (hc : n ≤ 16) {c : Int32} (k : Nat) (v : Int32) (hk : c = nI k) (hk2 : k < 6) : f_X6_countOf 6 7 96 M c v = some (nI (cN (fun r => decide (M 7 (r * 6 + k) = v)) n)) := T_cnt (s_rows_rec h hn) (h.2.1.2.2.1) k v hk hk2 (by omega) (by decide) (by omega) (by decide)
theorem s_get_rec {V : Nat → Int32} {M Mk : xM} (h : St V M Mk) {n : Nat} (hn : V 3 = nI n) (hc : n ≤ 16) {r : Nat} {c : Int32} (k : Nat) (hr : r < n) (hk : c = nI k) (hk2 : k < 6) : f_X6_get 6 7 96 M (nI r) c = some (M 7 (r * 6 + k)) := T_get (s_rows_rec h hn) (h.2.1.2.2.1) k hr hk hk2 (by omega) (by decide) (by omega) (by decide)
theorem s_setk_rec {V : Nat → Int32} {M Mk : xM} (h : St V M Mk) {n : Nat} (hn : V 3 = nI n) (hc : n ≤ 16) {r : Nat} {c : Int32} (k : Nat) (v : Int32) (hr : r < n) (hk : c = nI k) (hk2 : k < 6) : f_X6_set 6 7 96 M (nI r) c v = some (xw M 7 (r * 6 + k) v) := T_set (s_rows_rec h hn) (h.2.1.2.2.1) k v hr hk hk2 (by omega) (by decide) (by omega) (by decide)
theorem s_addk_rec {V : Nat → Int32} {M Mk : xM} (h : St V M Mk) {n : Nat} (hn : V 3 = nI n) (hc : n ≤ 16) {r : Nat} {c : Int32} (k : Nat) (v : Int32) (hr : r < n) (hk : c = nI k) (hk2 : k < 6) : f_X6_add 6 7 96 M (nI r) c v = some (xw M 7 (r * 6 + k) (M 7 (r * 6 + k) + v)) := T_addv (s_rows_rec h hn) (h.2.1.2.2.1) k v hr hk hk2 (by omega) (by decide) (by omega) (by decide)
theorem s_setk_prt {V : Nat → Int32} {M Mk : xM} (h : St V M Mk) {r : Nat} {c : Int32} (k : Nat) (v : Int32) (hr : r < 64) (hk : c = nI k) (hk2 : k < 4) : f_X6_set 8 9 256 M (nI r) c v = some (xw M 9 (r * 4 + k) v) := T_set (h.2.1.2.2.2.2.2.2.2.2.1) (h.2.1.2.2.2.1) k v hr hk hk2 (by omega) (by decide) (by omega) (by decide)
theorem s_rows_pas {V : Nat → Int32} {M Mk : xM} (h : St V M Mk) {n : Nat} (hn : V 4 = nI n) : M 10 2 = nI n := (h.1.2.2.2.2.2.2.2.2.2.2.2.2.2.2.2.2.1).trans hn
theorem s_full_pas {V : Nat → Int32} {M Mk : xM} (h : St V M Mk) {n : Nat} (hn : V 4 = nI n) (hc : n ≤ 24) : f_X6_isFull 10 11 264 M = some (bI (n = 24)) := by
  rw [T_full (s_rows_pas h hn) (h.2.1.2.2.2.2.1) (by decide) (by omega) (by decide)]
  congr 1
  unfold bI
  congr 1
  exact propext (by omega)
theorem s_add_pas {V : Nat → Int32} {M Mk : xM} (h : St V M Mk) {n : Nat} (hn : V 4 = nI n) (hc : n ≤ 24) (hf : ¬ n = 24) : f_X6_addRow 10 11 264 M = some (nI n, xw M 10 2 (nI (n + 1))) ∧ St (upd V 4 (nI (n + 1))) (xw M 10 2 (nI (n + 1))) Mk := by
  refine ⟨T_add (s_rows_pas h hn) (h.2.1.2.2.2.2.1) (by decide) (by omega) (by decide) (by omega), rs_n4 h.1 _, ec_set h.2.1 (by decide), z_upd h.2.2.1 (by decide), fun k hk => (xw_ne (by omega)).trans (h.2.2.2.1 k hk), fun r c a1 a2 a3 => (xw_o (by omega)).trans (h.2.2.2.2.1 r c a1 a2 a3), fun r a1 => (xw_o (by omega)).trans (h.2.2.2.2.2.1 r a1), fun r a1 => (xw_o (by omega)).trans (h.2.2.2.2.2.2.1 r a1), fun r c a1 a2 a3 => (xw_o (by omega)).trans (h.2.2.2.2.2.2.2 r c a1 a2 a3)⟩
theorem s_setk_pas {V : Nat → Int32} {M Mk : xM} (h : St V M Mk) {n : Nat} (hn : V 4 = nI n) (hc : n ≤ 24) {r : Nat} {c : Int32} (k : Nat) (v : Int32) (hr : r < n) (hk : c = nI k) (hk2 : k < 11) : f_X6_set 10 11 264 M (nI r) c v = some (xw M 11 (r * 11 + k) v) := T_set (s_rows_pas h hn) (h.2.1.2.2.2.2.1) k v hr hk hk2 (by omega) (by decide) (by omega) (by decide)
theorem s_rows_per {V : Nat → Int32} {M Mk : xM} (h : St V M Mk) {n : Nat} (hn : V 5 = nI n) : M 12 2 = nI n := (h.1.2.2.2.2.2.2.2.2.2.2.2.2.2.2.2.2.2.1).trans hn
theorem s_full_per {V : Nat → Int32} {M Mk : xM} (h : St V M Mk) {n : Nat} (hn : V 5 = nI n) (hc : n ≤ 24) : f_X6_isFull 12 13 120 M = some (bI (n = 24)) := by
  rw [T_full (s_rows_per h hn) (h.2.1.2.2.2.2.2.1) (by decide) (by omega) (by decide)]
  congr 1
  unfold bI
  congr 1
  exact propext (by omega)
theorem s_add_per {V : Nat → Int32} {M Mk : xM} (h : St V M Mk) {n : Nat} (hn : V 5 = nI n) (hc : n ≤ 24) (hf : ¬ n = 24) : f_X6_addRow 12 13 120 M = some (nI n, xw M 12 2 (nI (n + 1))) ∧ St (upd V 5 (nI (n + 1))) (xw M 12 2 (nI (n + 1))) Mk := by
  refine ⟨T_add (s_rows_per h hn) (h.2.1.2.2.2.2.2.1) (by decide) (by omega) (by decide) (by omega), rs_n5 h.1 _, ec_set h.2.1 (by decide), z_upd h.2.2.1 (by decide), fun k hk => (xw_ne (by omega)).trans (h.2.2.2.1 k hk), fun r c a1 a2 a3 => (xw_o (by omega)).trans (h.2.2.2.2.1 r c a1 a2 a3), fun r a1 => (xw_o (by omega)).trans (h.2.2.2.2.2.1 r a1), fun r a1 => (xw_o (by omega)).trans (h.2.2.2.2.2.2.1 r a1), fun r c a1 a2 a3 => (xw_o (by omega)).trans (h.2.2.2.2.2.2.2 r c a1 a2 a3)⟩
theorem s_setk_per {V : Nat → Int32} {M Mk : xM} (h : St V M Mk) {n : Nat} (hn : V 5 = nI n) (hc : n ≤ 24) {r : Nat} {c : Int32} (k : Nat) (v : Int32) (hr : r < n) (hk : c = nI k) (hk2 : k < 5) : f_X6_set 12 13 120 M (nI r) c v = some (xw M 13 (r * 5 + k) v) := T_set (s_rows_per h hn) (h.2.1.2.2.2.2.2.1) k v hr hk hk2 (by omega) (by decide) (by omega) (by decide)
theorem s_rows_req {V : Nat → Int32} {M Mk : xM} (h : St V M Mk) {n : Nat} (hn : V 6 = nI n) : M 14 2 = nI n := (h.1.2.2.2.2.2.2.2.2.2.2.2.2.2.2.2.2.2.2).trans hn
theorem s_full_req {V : Nat → Int32} {M Mk : xM} (h : St V M Mk) {n : Nat} (hn : V 6 = nI n) (hc : n ≤ 16) : f_X6_isFull 14 15 160 M = some (bI (n = 16)) := by
  rw [T_full (s_rows_req h hn) (h.2.1.2.2.2.2.2.2.1) (by decide) (by omega) (by decide)]
  congr 1
  unfold bI
  congr 1
  exact propext (by omega)
theorem s_add_req {V : Nat → Int32} {M Mk : xM} (h : St V M Mk) {n : Nat} (hn : V 6 = nI n) (hc : n ≤ 16) (hf : ¬ n = 16) : f_X6_addRow 14 15 160 M = some (nI n, xw M 14 2 (nI (n + 1))) ∧ St (upd V 6 (nI (n + 1))) (xw M 14 2 (nI (n + 1))) Mk := by
  refine ⟨T_add (s_rows_req h hn) (h.2.1.2.2.2.2.2.2.1) (by decide) (by omega) (by decide) (by omega), rs_n6 h.1 _, ec_set h.2.1 (by decide), z_upd h.2.2.1 (by decide), fun k hk => (xw_ne (by omega)).trans (h.2.2.2.1 k hk), fun r c a1 a2 a3 => (xw_o (by omega)).trans (h.2.2.2.2.1 r c a1 a2 a3), fun r a1 => (xw_o (by omega)).trans (h.2.2.2.2.2.1 r a1), fun r a1 => (xw_o (by omega)).trans (h.2.2.2.2.2.2.1 r a1), fun r c a1 a2 a3 => (xw_o (by omega)).trans (h.2.2.2.2.2.2.2 r c a1 a2 a3)⟩
theorem s_cnt_req {V : Nat → Int32} {M Mk : xM} (h : St V M Mk) {n : Nat} (hn : V 6 = nI n) (hc : n ≤ 16) {c : Int32} (k : Nat) (v : Int32) (hk : c = nI k) (hk2 : k < 10) : f_X6_countOf 14 15 160 M c v = some (nI (cN (fun r => decide (M 15 (r * 10 + k) = v)) n)) := T_cnt (s_rows_req h hn) (h.2.1.2.2.2.2.2.2.1) k v hk hk2 (by omega) (by decide) (by omega) (by decide)
theorem s_get_req {V : Nat → Int32} {M Mk : xM} (h : St V M Mk) {n : Nat} (hn : V 6 = nI n) (hc : n ≤ 16) {r : Nat} {c : Int32} (k : Nat) (hr : r < n) (hk : c = nI k) (hk2 : k < 10) : f_X6_get 14 15 160 M (nI r) c = some (M 15 (r * 10 + k)) := T_get (s_rows_req h hn) (h.2.1.2.2.2.2.2.2.1) k hr hk hk2 (by omega) (by decide) (by omega) (by decide)
theorem s_setk_req {V : Nat → Int32} {M Mk : xM} (h : St V M Mk) {n : Nat} (hn : V 6 = nI n) (hc : n ≤ 16) {r : Nat} {c : Int32} (k : Nat) (v : Int32) (hr : r < n) (hk : c = nI k) (hk2 : k < 10) : f_X6_set 14 15 160 M (nI r) c v = some (xw M 15 (r * 10 + k) v) := T_set (s_rows_req h hn) (h.2.1.2.2.2.2.2.2.1) k v hr hk hk2 (by omega) (by decide) (by omega) (by decide)
theorem s_addk_prs {V : Nat → Int32} {M Mk : xM} (h : St V M Mk) {r : Nat} {c : Int32} (k : Nat) (v : Int32) (hr : r < 8) (hk : c = nI k) (hk2 : k < 2) : f_X6_add 16 17 16 M (nI r) c v = some (xw M 17 (r * 2 + k) (M 17 (r * 2 + k) + v)) := T_addv (h.2.1.2.2.2.2.2.2.2.2.2) (h.2.1.2.2.2.2.2.2.2.1) k v hr hk hk2 (by omega) (by decide) (by omega) (by decide)
theorem w_car {V : Nat → Int32} {M Mk : xM} (h : St V M Mk) {r c : Nat} (hr : r < 8) (hc : c < 5) (x : Int32) : St (upd V (24 + 5 * r + c) x) (xw M 3 (r * 7 + c) x) Mk :=
  ⟨rs_car h.1 hr hc x, ec_set h.2.1 (Or.inl (by decide)), z_upd h.2.2.1 (by omega), fun k hk => (xw_ne (by omega)).trans (h.2.2.2.1 k hk), fun r2 c2 a1 a2 a3 => (xw_o (by omega)).trans (h.2.2.2.2.1 r2 c2 a1 a2 a3), fun r2 a1 => (xw_o (by omega)).trans (h.2.2.2.2.2.1 r2 a1), fun r2 a1 => (xw_o (by omega)).trans (h.2.2.2.2.2.2.1 r2 a1), fun r2 c2 a1 a2 a3 => (xw_o (by omega)).trans (h.2.2.2.2.2.2.2 r2 c2 a1 a2 a3)⟩
theorem w_mac {V : Nat → Int32} {M Mk : xM} (h : St V M Mk) {r c : Nat} (hr : r < 4) (hc : c < 5) (x : Int32) : St (upd V (64 + 5 * r + c) x) (xw M 5 (r * 6 + c) x) Mk :=
  ⟨rs_mac h.1 hr hc x, ec_set h.2.1 (Or.inl (by decide)), z_upd h.2.2.1 (by omega), fun k hk => (xw_ne (by omega)).trans (h.2.2.2.1 k hk), fun r2 c2 a1 a2 a3 => (xw_o (by omega)).trans (h.2.2.2.2.1 r2 c2 a1 a2 a3), fun r2 a1 => (xw_o (by omega)).trans (h.2.2.2.2.2.1 r2 a1), fun r2 a1 => (xw_o (by omega)).trans (h.2.2.2.2.2.2.1 r2 a1), fun r2 c2 a1 a2 a3 => (xw_o (by omega)).trans (h.2.2.2.2.2.2.2 r2 c2 a1 a2 a3)⟩
theorem w_rec {V : Nat → Int32} {M Mk : xM} (h : St V M Mk) {r c : Nat} (hr : r < 16) (hc : c < 4) (x : Int32) : St (upd V (84 + 5 * r + c) x) (xw M 7 (r * 6 + c) x) Mk :=
  ⟨rs_rec h.1 hr hc x, ec_set h.2.1 (Or.inl (by decide)), z_upd h.2.2.1 (by omega), fun k hk => (xw_ne (by omega)).trans (h.2.2.2.1 k hk), fun r2 c2 a1 a2 a3 => (xw_o (by omega)).trans (h.2.2.2.2.1 r2 c2 a1 a2 a3), fun r2 a1 => (xw_o (by omega)).trans (h.2.2.2.2.2.1 r2 a1), fun r2 a1 => (xw_o (by omega)).trans (h.2.2.2.2.2.2.1 r2 a1), fun r2 c2 a1 a2 a3 => (xw_o (by omega)).trans (h.2.2.2.2.2.2.2 r2 c2 a1 a2 a3)⟩
theorem w_rec5 {V : Nat → Int32} {M Mk : xM} (h : St V M Mk) {r : Nat} (hr : r < 16) (x : Int32) : St (upd V (84 + 5 * r + 4) x) (xw M 7 (r * 6 + 5) x) Mk :=
  ⟨rs_rec5 h.1 hr x, ec_set h.2.1 (Or.inl (by decide)), z_upd h.2.2.1 (by omega), fun k hk => (xw_ne (by omega)).trans (h.2.2.2.1 k hk), fun r2 c2 a1 a2 a3 => (xw_o (by omega)).trans (h.2.2.2.2.1 r2 c2 a1 a2 a3), fun r2 a1 => (xw_o (by omega)).trans (h.2.2.2.2.2.1 r2 a1), fun r2 a1 => (xw_o (by omega)).trans (h.2.2.2.2.2.2.1 r2 a1), fun r2 c2 a1 a2 a3 => (xw_o (by omega)).trans (h.2.2.2.2.2.2.2 r2 c2 a1 a2 a3)⟩
theorem w_prt {V : Nat → Int32} {M Mk : xM} (h : St V M Mk) {r c : Nat} (hr : r < 64) (hc : c < 4) (x : Int32) : St (upd V (164 + 4 * r + c) x) (xw M 9 (r * 4 + c) x) Mk :=
  ⟨rs_prt h.1 hr hc x, ec_set h.2.1 (Or.inl (by decide)), z_upd h.2.2.1 (by omega), fun k hk => (xw_ne (by omega)).trans (h.2.2.2.1 k hk), fun r2 c2 a1 a2 a3 => (xw_o (by omega)).trans (h.2.2.2.2.1 r2 c2 a1 a2 a3), fun r2 a1 => (xw_o (by omega)).trans (h.2.2.2.2.2.1 r2 a1), fun r2 a1 => (xw_o (by omega)).trans (h.2.2.2.2.2.2.1 r2 a1), fun r2 c2 a1 a2 a3 => (xw_o (by omega)).trans (h.2.2.2.2.2.2.2 r2 c2 a1 a2 a3)⟩
theorem w_pas {V : Nat → Int32} {M Mk : xM} (h : St V M Mk) {r c : Nat} (hr : r < 24) (hc : c < 5) (x : Int32) : St (upd V (420 + 9 * r + c) x) (xw M 11 (r * 11 + c) x) Mk :=
  ⟨rs_pas h.1 hr hc x, ec_set h.2.1 (Or.inl (by decide)), z_upd h.2.2.1 (by omega), fun k hk => (xw_ne (by omega)).trans (h.2.2.2.1 k hk), fun r2 c2 a1 a2 a3 => (xw_o (by omega)).trans (h.2.2.2.2.1 r2 c2 a1 a2 a3), fun r2 a1 => (xw_o (by omega)).trans (h.2.2.2.2.2.1 r2 a1), fun r2 a1 => (xw_o (by omega)).trans (h.2.2.2.2.2.2.1 r2 a1), fun r2 c2 a1 a2 a3 => (xw_o (by omega)).trans (h.2.2.2.2.2.2.2 r2 c2 a1 a2 a3)⟩
theorem w_pas7 {V : Nat → Int32} {M Mk : xM} (h : St V M Mk) {r c : Nat} (hr : r < 24) (hc : c < 4) (x : Int32) : St (upd V (420 + 9 * r + 5 + c) x) (xw M 11 (r * 11 + (7 + c)) x) Mk :=
  ⟨rs_pas7 h.1 hr hc x, ec_set h.2.1 (Or.inl (by decide)), z_upd h.2.2.1 (by omega), fun k hk => (xw_ne (by omega)).trans (h.2.2.2.1 k hk), fun r2 c2 a1 a2 a3 => (xw_o (by omega)).trans (h.2.2.2.2.1 r2 c2 a1 a2 a3), fun r2 a1 => (xw_o (by omega)).trans (h.2.2.2.2.2.1 r2 a1), fun r2 a1 => (xw_o (by omega)).trans (h.2.2.2.2.2.2.1 r2 a1), fun r2 c2 a1 a2 a3 => (xw_o (by omega)).trans (h.2.2.2.2.2.2.2 r2 c2 a1 a2 a3)⟩
theorem w_per {V : Nat → Int32} {M Mk : xM} (h : St V M Mk) {r c : Nat} (hr : r < 24) (hc : c < 5) (x : Int32) : St (upd V (636 + 5 * r + c) x) (xw M 13 (r * 5 + c) x) Mk :=
  ⟨rs_per h.1 hr hc x, ec_set h.2.1 (Or.inl (by decide)), z_upd h.2.2.1 (by omega), fun k hk => (xw_ne (by omega)).trans (h.2.2.2.1 k hk), fun r2 c2 a1 a2 a3 => (xw_o (by omega)).trans (h.2.2.2.2.1 r2 c2 a1 a2 a3), fun r2 a1 => (xw_o (by omega)).trans (h.2.2.2.2.2.1 r2 a1), fun r2 a1 => (xw_o (by omega)).trans (h.2.2.2.2.2.2.1 r2 a1), fun r2 c2 a1 a2 a3 => (xw_o (by omega)).trans (h.2.2.2.2.2.2.2 r2 c2 a1 a2 a3)⟩
theorem w_req {V : Nat → Int32} {M Mk : xM} (h : St V M Mk) {r c : Nat} (hr : r < 16) (hc : c < 10) (x : Int32) : St (upd V (756 + 10 * r + c) x) (xw M 15 (r * 10 + c) x) Mk :=
  ⟨rs_req h.1 hr hc x, ec_set h.2.1 (Or.inl (by decide)), z_upd h.2.2.1 (by omega), fun k hk => (xw_ne (by omega)).trans (h.2.2.2.1 k hk), fun r2 c2 a1 a2 a3 => (xw_o (by omega)).trans (h.2.2.2.2.1 r2 c2 a1 a2 a3), fun r2 a1 => (xw_o (by omega)).trans (h.2.2.2.2.2.1 r2 a1), fun r2 a1 => (xw_o (by omega)).trans (h.2.2.2.2.2.2.1 r2 a1), fun r2 c2 a1 a2 a3 => (xw_o (by omega)).trans (h.2.2.2.2.2.2.2 r2 c2 a1 a2 a3)⟩
theorem w_prs0 {V : Nat → Int32} {M Mk : xM} (h : St V M Mk) {r : Nat} (hr : r < 8) (x : Int32) : St (upd V (8 + r) x) (xw M 17 (r * 2 + 0) x) Mk :=
  ⟨rs_prs0 h.1 hr x, ec_set h.2.1 (Or.inl (by decide)), z_upd h.2.2.1 (by omega), fun k hk => (xw_ne (by omega)).trans (h.2.2.2.1 k hk), fun r2 c2 a1 a2 a3 => (xw_o (by omega)).trans (h.2.2.2.2.1 r2 c2 a1 a2 a3), fun r2 a1 => (xw_o (by omega)).trans (h.2.2.2.2.2.1 r2 a1), fun r2 a1 => (xw_o (by omega)).trans (h.2.2.2.2.2.2.1 r2 a1), fun r2 c2 a1 a2 a3 => (xw_o (by omega)).trans (h.2.2.2.2.2.2.2 r2 c2 a1 a2 a3)⟩
theorem w_prs1 {V : Nat → Int32} {M Mk : xM} (h : St V M Mk) {r : Nat} (hr : r < 8) (x : Int32) : St (upd V (16 + r) x) (xw M 17 (r * 2 + 1) x) Mk :=
  ⟨rs_prs1 h.1 hr x, ec_set h.2.1 (Or.inl (by decide)), z_upd h.2.2.1 (by omega), fun k hk => (xw_ne (by omega)).trans (h.2.2.2.1 k hk), fun r2 c2 a1 a2 a3 => (xw_o (by omega)).trans (h.2.2.2.2.1 r2 c2 a1 a2 a3), fun r2 a1 => (xw_o (by omega)).trans (h.2.2.2.2.2.1 r2 a1), fun r2 a1 => (xw_o (by omega)).trans (h.2.2.2.2.2.2.1 r2 a1), fun r2 c2 a1 a2 a3 => (xw_o (by omega)).trans (h.2.2.2.2.2.2.2 r2 c2 a1 a2 a3)⟩
theorem w_day {V : Nat → Int32} {M Mk : xM} (h : St V M Mk) (x : Int32) : St (upd V 0 x) (xw M 1 8 x) Mk :=
  ⟨rs_day h.1 x, ec_set h.2.1 (Or.inl (by decide)), z_upd h.2.2.1 (by omega), fun k hk => (xw_ne (by omega)).trans (h.2.2.2.1 k hk), fun r2 c2 a1 a2 a3 => (xw_o (by omega)).trans (h.2.2.2.2.1 r2 c2 a1 a2 a3), fun r2 a1 => (xw_o (by omega)).trans (h.2.2.2.2.2.1 r2 a1), fun r2 a1 => (xw_o (by omega)).trans (h.2.2.2.2.2.2.1 r2 a1), fun r2 c2 a1 a2 a3 => (xw_o (by omega)).trans (h.2.2.2.2.2.2.2 r2 c2 a1 a2 a3)⟩
theorem w_rsn {V : Nat → Int32} {M Mk : xM} (h : St V M Mk) (x : Int32) : St (upd V 7 x) (xw M 1 9 x) Mk :=
  ⟨rs_rsn h.1 x, ec_set h.2.1 (Or.inl (by decide)), z_upd h.2.2.1 (by omega), fun k hk => (xw_ne (by omega)).trans (h.2.2.2.1 k hk), fun r2 c2 a1 a2 a3 => (xw_o (by omega)).trans (h.2.2.2.2.1 r2 c2 a1 a2 a3), fun r2 a1 => (xw_o (by omega)).trans (h.2.2.2.2.2.1 r2 a1), fun r2 a1 => (xw_o (by omega)).trans (h.2.2.2.2.2.2.1 r2 a1), fun r2 c2 a1 a2 a3 => (xw_o (by omega)).trans (h.2.2.2.2.2.2.2 r2 c2 a1 a2 a3)⟩
theorem St_der {V V2 : Nat → Int32} {M Mk : xM} (h : St V2 M Mk) (hk : Vw V Mk) (e3 : V2 3 = V 3) (e4 : V2 4 = V 4) (ep : ∀ j, 420 ≤ j → j < 636 → V2 j = V j) (er : ∀ r, r < 16 → V2 (84 + 5 * r) = V (84 + 5 * r) ∧ V2 (84 + 5 * r + 1) = V (84 + 5 * r + 1)) (el : ∀ r, r < nN V 1 → V2 (24 + 5 * r + 2) = V (24 + 5 * r + 2)) : EncDer V2 M 1 :=
  Der_c (v_ok hk) hk.2.1.2.1 e3 e4 ep er el h.2.2.2.2.1 h.2.2.2.2.2.1 h.2.2.2.2.2.2.1 h.2.2.2.2.2.2.2
theorem OkC_c {V V2 : Nat → Int32} {r : Nat} (h : OkC V r) (e : ∀ c, c < 4 → V2 (24 + 5 * r + c) = V (24 + 5 * r + c)) : OkC V2 r := by
  have e0 := e 0 (by decide); have e1 := e 1 (by decide); have e2 := e 2 (by decide); have e3 := e 3 (by decide)
  rw [Nat.add_zero] at e0
  unfold OkC at *
  rw [e0, e1, e2, e3]; exact h
theorem OkM_c {V V2 : Nat → Int32} {r : Nat} (h : OkM V r) (e : ∀ c, c < 4 → V2 (64 + 5 * r + c) = V (64 + 5 * r + c)) : OkM V2 r := by
  have e0 := e 0 (by decide); have e1 := e 1 (by decide); have e2 := e 2 (by decide); have e3 := e 3 (by decide)
  rw [Nat.add_zero] at e0
  unfold OkM at *
  rw [e0, e1, e2, e3]; exact h
theorem OkR_c {V V2 : Nat → Int32} {r : Nat} (h : OkR V r) (hn : nN V 1 ≤ nN V2 1) (e : ∀ c, c < 5 → V2 (84 + 5 * r + c) = V (84 + 5 * r + c)) : OkR V2 r := by
  have e0 := e 0 (by decide); have e1 := e 1 (by decide); have e2 := e 2 (by decide); have e3 := e 3 (by decide); have e4 := e 4 (by decide)
  rw [Nat.add_zero] at e0
  have x0 : nN V2 (84 + 5 * r) = nN V (84 + 5 * r) := by unfold nN; rw [e0]
  have x4 : nN V2 (84 + 5 * r + 4) = nN V (84 + 5 * r + 4) := by unfold nN; rw [e4]
  unfold OkR at *
  rw [x0, x4, e0, e1, e2, e3, e4]
  exact ⟨h.1, by omega, h.2.2⟩
theorem OkT_c {V V2 : Nat → Int32} {j : Nat} (h : OkT V j) (e : ∀ c, c < 3 → V2 (164 + 4 * j + c) = V (164 + 4 * j + c)) : OkT V2 j := by
  have e0 := e 0 (by decide); have e1 := e 1 (by decide); have e2 := e 2 (by decide)
  rw [Nat.add_zero] at e0
  have x2 : nN V2 (164 + 4 * j + 2) = nN V (164 + 4 * j + 2) := by unfold nN; rw [e2]
  unfold OkT at *
  rw [x2, e0, e1, e2]; exact h
theorem OkP_c {V V2 : Nat → Int32} {r : Nat} (h : OkP V r) (hn : nN V 1 ≤ nN V2 1) (hm : nN V 2 ≤ nN V2 2) (e : ∀ c, c < 9 → V2 (420 + 9 * r + c) = V (420 + 9 * r + c)) : OkP V2 r := by
  have e0 := e 0 (by decide); have e1 := e 1 (by decide)
  rw [Nat.add_zero] at e0
  have x0 : nN V2 (420 + 9 * r) = nN V (420 + 9 * r) := by unfold nN; rw [e0]
  have x1 : nN V2 (420 + 9 * r + 1) = nN V (420 + 9 * r + 1) := by unfold nN; rw [e1]
  unfold OkP at *
  rw [x0, x1, e0, e1]
  refine ⟨h.1, by omega, h.2.2.1, by omega, fun t ht => ?_⟩
  have := e (5 + t) (by omega)
  rw [show 420 + 9 * r + 5 + t = 420 + 9 * r + (5 + t) by omega, this, show 420 + 9 * r + (5 + t) = 420 + 9 * r + 5 + t by omega]
  exact h.2.2.2.2 t ht
theorem OkQ_c {V V2 : Nat → Int32} {r : Nat} (h : OkQ V r) (hn : nN V 3 ≤ nN V2 3) (e : ∀ c, c < 10 → V2 (756 + 10 * r + c) = V (756 + 10 * r + c)) : OkQ V2 r := by
  have e0 := e 0 (by decide); have e1 := e 1 (by decide); have e2 := e 2 (by decide); have e3 := e 3 (by decide); have e4 := e 4 (by decide); have e5 := e 5 (by decide); have e6 := e 6 (by decide); have e7 := e 7 (by decide); have e9 := e 9 (by decide)
  rw [Nat.add_zero] at e0
  have x1 : nN V2 (756 + 10 * r + 1) = nN V (756 + 10 * r + 1) := by unfold nN; rw [e1]
  have x2 : nN V2 (756 + 10 * r + 2) = nN V (756 + 10 * r + 2) := by unfold nN; rw [e2]
  unfold OkQ at *
  rw [x1, x2, e0, e1, e2, e3, e4, e5, e6, e7, e9]
  exact ⟨h.1, h.2.1, h.2.2.1, by omega, h.2.2.2.2⟩
theorem Ok_hi {V V2 : Nat → Int32} (h : Ok V) (e : ∀ j, j < 636 → j ≠ 5 → j ≠ 6 → j ≠ 7 → (j < 8 ∨ 24 ≤ j) → V2 j = V j) (n5 : V2 5 = nI (nN V2 5)) (c5 : nN V2 5 ≤ 24) (n6 : V2 6 = nI (nN V2 6)) (c6 : nN V2 6 ≤ 16) (hE : ∀ r, r < nN V2 5 → V2 (636 + 5 * r + 4) = 0 ∨ V2 (636 + 5 * r + 4) = 1) (hEz : ∀ r, nN V2 5 ≤ r → r < 24 → V2 (636 + 5 * r + 4) = 0) (hQ : ∀ r, r < nN V2 6 → OkQ V2 r) (hQz : ∀ r, nN V2 6 ≤ r → r < 16 → V2 (756 + 10 * r + 9) = 0) : Ok V2 := by
  obtain ⟨⟨a1, a2, a3, a4, a5, a6, a7, a8, a9, a10, a11, a12, a13⟩, b1, b2, b3, b4, b5, b6, b7, b8, b9, b10⟩ := h
  have x1 : nN V2 1 = nN V 1 := by unfold nN; rw [e 1 (by decide) (by decide) (by decide) (by decide) (by decide)]
  have x2 : nN V2 2 = nN V 2 := by unfold nN; rw [e 2 (by decide) (by decide) (by decide) (by decide) (by decide)]
  have x3 : nN V2 3 = nN V 3 := by unfold nN; rw [e 3 (by decide) (by decide) (by decide) (by decide) (by decide)]
  have x4 : nN V2 4 = nN V 4 := by unfold nN; rw [e 4 (by decide) (by decide) (by decide) (by decide) (by decide)]
  refine ⟨⟨by rw [x1, e 1 (by decide) (by decide) (by decide) (by decide) (by decide)]; exact a1, by omega, by rw [x2, e 2 (by decide) (by decide) (by decide) (by decide) (by decide)]; exact a3, by omega, by rw [x3, e 3 (by decide) (by decide) (by decide) (by decide) (by decide)]; exact a5, by omega, by rw [x4, e 4 (by decide) (by decide) (by decide) (by decide) (by decide)]; exact a7, by omega, n5, c5, n6, c6, by rw [e 0 (by decide) (by decide) (by decide) (by decide) (by decide)]; exact a13⟩, fun r hr => OkC_c (b1 r (by omega)) (fun c hc => e _ (by omega) (by omega) (by omega) (by omega) (by omega)), fun r hr => OkM_c (b2 r (by omega)) (fun c hc => e _ (by omega) (by omega) (by omega) (by omega) (by omega)), fun r hr => OkR_c (b3 r (by omega)) (by omega) (fun c hc => e _ (by omega) (by omega) (by omega) (by omega) (by omega)), fun r h1 h2 => by rw [e _ (by omega) (by omega) (by omega) (by omega) (by omega)]; exact b4 r (by omega) h2, fun r k hr hk => ?_, fun p hp => OkP_c (b6 p (by omega)) (by omega) (by omega) (fun c hc => e _ (by omega) (by omega) (by omega) (by omega) (by omega)), hE, hEz, hQ, hQz⟩
  have x9 : nN V2 (84 + 5 * r + 4) = nN V (84 + 5 * r + 4) := by unfold nN; rw [e _ (by omega) (by omega) (by omega) (by omega) (by omega)]
  have h3 := (b3 r (by omega)).2.2.2.2.2.2
  exact OkT_c (b5 r k (by omega) (by omega)) (fun c hc => e _ (by omega) (by omega) (by omega) (by omega) (by omega))


