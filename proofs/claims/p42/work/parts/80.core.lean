def Core (C : (Nat → Int32) → Prop) (V V2 : Nat → Int32) (v : Int32) (F G : xM → Option (Int32 × xM)) : Prop :=
  (∀ M, Vw V M → ∃ M1, F M = some (v, M1) ∧ Vw V2 M1 ∧ ∀ k, 18 ≤ k → M1 k = M k) ∧
  (∀ M, RefK M → C (M 157) → ∃ M1, G (wV M V) = some (v, wV M1 V2) ∧ ∀ k, k ≠ 157 → M1 k = M k) ∧ Z916 V2
theorem St_end {V2 : Nat → Int32} {M Mk : xM} (h : St V2 M Mk) (hd : EncDer V2 M 1) (ho : Ok V2) : Vw V2 M ∧ ∀ k, 18 ≤ k → M k = Mk k := ⟨⟨trivial, ⟨h.1, hd, ho⟩, h.2.1, trivial⟩, h.2.2.2.1⟩
theorem sg_req {V : Nat → Int32} {M Mk : xM} (h : St V M Mk) {n : Nat} (hn : V 6 = nI n) (hc : n ≤ 16) {r : Nat} {c : Int32} (k : Nat) (hr : r < n) (hk : c = nI k) (hk2 : k < 10) : f_X6_get 14 15 160 M (nI r) c = some (V (756 + 10 * r + k)) := by
  rw [s_get_req h hn hc k hr hk hk2, h.1.2.2.2.2.2.2.2.2.1 r k (by omega) hk2]
theorem Ok_day {V V2 : Nat → Int32} (h : Ok V) (e : ∀ j, j ≠ 0 → (∀ q, q < 4 → j ≠ 64 + 5 * q + 4) → (∀ q, q < 16 → j ≠ 756 + 10 * q) → V2 j = V j) (h0 : rg (V2 0) 0 9999) (hs : ∀ r, r < 16 → V2 (756 + 10 * r) = 0 → V (756 + 10 * r) = 0) : Ok V2 := by
  obtain ⟨⟨a1, a2, a3, a4, a5, a6, a7, a8, a9, a10, a11, a12, a13⟩, b1, b2, b3, b4, b5, b6, b7, b8, b9, b10⟩ := h
  have x : ∀ k, 1 ≤ k → k < 8 → V2 k = V k := fun k c1 c2 => e k (by omega) (fun q _ => by omega) (fun q _ => by omega)
  have y : ∀ k, 1 ≤ k → k < 8 → nN V2 k = nN V k := fun k c1 c2 => by unfold nN; rw [x k c1 c2]
  have y1 := y 1 (by decide) (by decide)
  have y2 := y 2 (by decide) (by decide)
  have y3 := y 3 (by decide) (by decide)
  have y4 := y 4 (by decide) (by decide)
  have y5 := y 5 (by decide) (by decide)
  have y6 := y 6 (by decide) (by decide)
  refine ⟨⟨by rw [y1, x 1 (by decide) (by decide)]; exact a1, by omega, by rw [y2, x 2 (by decide) (by decide)]; exact a3, by omega, by rw [y3, x 3 (by decide) (by decide)]; exact a5, by omega, by rw [y4, x 4 (by decide) (by decide)]; exact a7, by omega, by rw [y5, x 5 (by decide) (by decide)]; exact a9, by omega, by rw [y6, x 6 (by decide) (by decide)]; exact a11, by omega, h0⟩, fun r hr => OkC_c (b1 r (by omega)) (fun c hc => e _ (by omega) (fun q _ => by omega) (fun q _ => by omega)), fun r hr => OkM_c (b2 r (by omega)) (fun c hc => e _ (by omega) (fun q _ => by omega) (fun q _ => by omega)), fun r hr => OkR_c (b3 r (by omega)) (by omega) (fun c hc => e _ (by omega) (fun q _ => by omega) (fun q _ => by omega)), fun r h1 h2 => by rw [e _ (by omega) (fun q _ => by omega) (fun q _ => by omega)]; exact b4 r (by omega) h2, fun r k hr hk => ?_, fun p hp => OkP_c (b6 p (by omega)) (by omega) (by omega) (fun c hc => e _ (by omega) (fun q _ => by omega) (fun q _ => by omega)), fun r hr => by rw [e _ (by omega) (fun q _ => by omega) (fun q _ => by omega)]; exact b7 r (by omega), fun r h1 h2 => by rw [e _ (by omega) (fun q _ => by omega) (fun q _ => by omega)]; exact b8 r (by omega) h2, fun r hr => ?_, fun r h1 h2 => by rw [e _ (by omega) (fun q _ => by omega) (fun q _ => by omega)]; exact b10 r (by omega) h2⟩
  · have x9 : nN V2 (84 + 5 * r + 4) = nN V (84 + 5 * r + 4) := by unfold nN; rw [e _ (by omega) (fun q _ => by omega) (fun q _ => by omega)]
    have h3 := (b3 r (by omega)).2.2.2.2.2.2
    exact OkT_c (b5 r k (by omega) (by omega)) (fun c hc => e _ (by omega) (fun q _ => by omega) (fun q _ => by omega))
  · have old := b9 r (by omega)
    have z : ∀ c, 1 ≤ c → c < 10 → V2 (756 + 10 * r + c) = V (756 + 10 * r + c) := fun c c1 c2 => e _ (by omega) (fun q _ => by omega) (fun q _ => by omega)
    have z1 : nN V2 (756 + 10 * r + 1) = nN V (756 + 10 * r + 1) := by unfold nN; rw [z 1 (by decide) (by decide)]
    have z2 : nN V2 (756 + 10 * r + 2) = nN V (756 + 10 * r + 2) := by unfold nN; rw [z 2 (by decide) (by decide)]
    unfold OkQ at *
    rw [z1, z2, y3, z 1 (by decide) (by decide), z 2 (by decide) (by decide), z 3 (by decide) (by decide), z 4 (by decide) (by decide), z 5 (by decide) (by decide), z 6 (by decide) (by decide), z 7 (by decide) (by decide), z 9 (by decide) (by decide)]
    exact ⟨old.1, old.2.1, old.2.2.1, old.2.2.2.1, old.2.2.2.2.1, old.2.2.2.2.2.1, old.2.2.2.2.2.2.1, old.2.2.2.2.2.2.2.1, old.2.2.2.2.2.2.2.2.1, fun q => old.2.2.2.2.2.2.2.2.2 (hs r (by omega) q)⟩
def macV (V : Nat → Int32) : Nat → Nat → Int32
  | 0 => V
  | i + 1 => upd (macV V i) (64 + 5 * i + 4) 28800
def exq (V : Nat → Int32) (i : Nat) : Bool := decide (V (756 + 10 * i) = 0 ∧ V (756 + 10 * i + 7) < V 0)
def reqV (V : Nat → Int32) : Nat → Nat → Int32
  | 0 => V
  | i + 1 => if exq V i = true then upd (reqV V i) (756 + 10 * i) 2 else reqV V i
theorem macV_ne {V : Nat → Int32} {j : Nat} : ∀ {i : Nat}, (∀ q, q < i → j ≠ 64 + 5 * q + 4) → macV V i j = V j
  | 0, _ => rfl
  | i + 1, h => by unfold macV; rw [upd_ne (h i (by omega)), macV_ne (fun q hq => h q (by omega))]
theorem reqV_ne {V : Nat → Int32} {j : Nat} : ∀ {i : Nat}, (∀ q, q < i → j ≠ 756 + 10 * q) → reqV V i j = V j
  | 0, _ => rfl
  | i + 1, h => by
    unfold reqV
    split
    · rw [upd_ne (h i (by omega)), reqV_ne (fun q hq => h q (by omega))]
    · exact reqV_ne (fun q hq => h q (by omega))
theorem reqV_st {V : Nat → Int32} {r : Nat} : ∀ {i : Nat}, reqV V i (756 + 10 * r) = 0 → V (756 + 10 * r) = 0
  | 0, h => h
  | i + 1, h => by
    unfold reqV at h
    split at h
    · by_cases q : r = i
      · subst q; rw [upd_eq] at h; exact absurd h (by decide)
      · rw [upd_ne (by omega)] at h; exact reqV_st h
    · exact reqV_st h
theorem d8_61 {V : Nat → Int32} {Mk : xM} {n : Nat} (hn : V 2 = nI n) (hc : n ≤ 4) (a f : Int32) : ∀ (d i fu : Nat) (M : xM), i + d = n → d < fu → St (macV V i) M Mk → ∃ M1, f_X8_tryDays_61 fu M a f (nI i) = f_X8_tryDays_101 xFU M1 a f 0 0 ∧ St (macV V n) M1 Mk := by
  intro d
  induction d with
  | zero =>
    intro i fu M e1 e2 h
    obtain ⟨g, rfl⟩ : ∃ g, fu = g + 1 := ⟨fu - 1, by omega⟩
    have : i = n := by omega
    subst this
    refine ⟨M, ?_, h⟩
    rw [f_X8_tryDays_61, s_rows_mac h (n := i) ((macV_ne (fun q _ => by omega)).trans hn), if_pos (by rw [le_n (by omega) (by omega)]; exact Nat.le_refl _), xl_n, xl_n]
  | succ d ih =>
    intro i fu M e1 e2 h
    obtain ⟨g, rfl⟩ : ∃ g, fu = g + 1 := ⟨fu - 1, by omega⟩
    have h2 : macV V i 2 = nI n := (macV_ne (fun q _ => by omega)).trans hn
    obtain ⟨M1, q1, q2, q3⟩ := sx_mac h h2 hc (r := i) (c := 4) 4 28800 (by omega) rfl (by decide)
    obtain ⟨M2, p1, p2⟩ := ih (i + 1) g M1 (by omega) (by omega) q2
    refine ⟨M2, ?_, p2⟩
    rw [f_X8_tryDays_61, s_rows_mac h h2, if_neg (by rw [le_n (by omega) (by omega)]; omega), q1, xb_n, xl_n, ir_1]
    exact p1
theorem d8_101 {V : Nat → Int32} {Mk : xM} {n : Nat} (hn : V 6 = nI n) (hc : n ≤ 16) (a f : Int32) : ∀ (d i fu : Nat) (M : xM), i + d = n → d < fu → St (reqV V i) M Mk → ∃ M1, f_X8_tryDays_101 fu M a f (nI (cN (exq V) i)) (nI i) = some (nI (cN (exq V) n), M1) ∧ St (reqV V n) M1 Mk := by
  intro d
  induction d with
  | zero =>
    intro i fu M e1 e2 h
    obtain ⟨g, rfl⟩ : ∃ g, fu = g + 1 := ⟨fu - 1, by omega⟩
    have : i = n := by omega
    subst this
    refine ⟨M, ?_, h⟩
    rw [f_X8_tryDays_101, s_rows_req h (n := i) ((reqV_ne (fun q _ => by omega)).trans hn), if_pos (by rw [le_n (by omega) (by omega)]; exact Nat.le_refl _)]
  | succ d ih =>
    intro i fu M e1 e2 h
    obtain ⟨g, rfl⟩ : ∃ g, fu = g + 1 := ⟨fu - 1, by omega⟩
    have h6 : reqV V i 6 = nI n := (reqV_ne (fun q _ => by omega)).trans hn
    have o1 : f_X8_isOpen M (nI i) = some (bI (V (756 + 10 * i) = 0)) := by
      unfold f_X8_isOpen bI
      rw [sg_req h h6 hc (c := 0) 0 (by omega) rfl (by decide), xb_n, Nat.add_zero, reqV_ne (fun q _ => by omega)]
      split <;> rfl
    have g7 : f_X6_get 14 15 160 M (nI i) 7 = some (V (756 + 10 * i + 7)) := by
      rw [sg_req h h6 hc (c := 7) 7 (by omega) rfl (by decide), reqV_ne (fun q _ => by omega)]
    have td : M 1 8 = V 0 := (s_today h).trans (reqV_ne (fun q _ => by omega))
    have hs : cN (exq V) (i + 1) = cN (exq V) i + (if exq V i = true then 1 else 0) := rfl
    have hr : reqV V (i + 1) = if exq V i = true then upd (reqV V i) (756 + 10 * i) 2 else reqV V i := rfl
    by_cases q : exq V i = true
    · obtain ⟨M1, q1, q2, q3⟩ := sx_req h h6 hc (r := i) (c := 0) 0 2 (by omega) rfl (by decide)
      rw [if_pos q] at hs hr
      rw [Nat.add_zero, ← hr] at q2
      obtain ⟨M2, p1, p2⟩ := ih (i + 1) g M1 (by omega) (by omega) q2
      refine ⟨M2, ?_, p2⟩
      have qq : V (756 + 10 * i) = 0 ∧ V (756 + 10 * i + 7) < V 0 := of_decide_eq_true q
      rw [f_X8_tryDays_101, s_rows_req h h6, if_neg (by rw [le_n (by omega) (by omega)]; omega), o1, xb_n, ifb0, if_pos qq.1, g7, xb_n, td, if_neg (Int32.not_le.mpr qq.2), q1, xb_n, xl_n, ir_1]
      unfold f_X8_tryDays_166
      rw [xl_n, ir_1]
      rw [hs] at p1
      exact p1
    · rw [if_neg q] at hs hr
      rw [← hr] at h
      obtain ⟨M2, p1, p2⟩ := ih (i + 1) g M (by omega) (by omega) h
      refine ⟨M2, ?_, p2⟩
      rw [hr] at h
      rw [hs, Nat.add_zero] at p1
      rw [f_X8_tryDays_101, s_rows_req h h6, if_neg (by rw [le_n (by omega) (by omega)]; omega), o1, xb_n, ifb0]
      unfold f_X8_tryDays_166
      rw [xl_n, ir_1]
      by_cases w1 : V (756 + 10 * i) = 0
      · have w2 : V 0 ≤ V (756 + 10 * i + 7) := Int32.not_lt.mp (fun z => q (decide_eq_true ⟨w1, z⟩))
        rw [if_pos w1, g7, xb_n, td, if_pos w2]
        exact p1
      · rw [if_neg w1]
        exact p1
theorem d9_50 {V : Nat → Int32} {M : xM} {n : Nat} (hn : V 2 = nI n) (hc : n ≤ 4) (a f : Int32) : ∀ (d i fu : Nat), i + d = n → d < fu → f_X9_goesBy_50 fu (wV M (macV V i)) a f (nI i) = f_X9_goesBy_87 xFU (wV M (macV V n)) a f 0 0 := by
  intro d
  induction d with
  | zero =>
    intro i fu e1 e2
    obtain ⟨g, rfl⟩ : ∃ g, fu = g + 1 := ⟨fu - 1, by omega⟩
    have : i = n := by omega
    subst this
    have h2 : macV V i 2 = nI i := (macV_ne (fun q _ => by omega)).trans hn
    rw [f_X9_goesBy_50]
    simp (disch := omega) only [ite_true, IM, IA, IR, IC, IN, nI_add, pk_mul, xin_n, cl_n, xgd_n, ↓xl_n, xb_n, xb2_n, xw_wV, wV_150, h2, le_n]
    rw [if_pos (Nat.le_refl _)]
  | succ d ih =>
    intro i fu e1 e2
    obtain ⟨g, rfl⟩ : ∃ g, fu = g + 1 := ⟨fu - 1, by omega⟩
    have h2 : macV V i 2 = nI n := (macV_ne (fun q _ => by omega)).trans hn
    have p1 := ih (i + 1) g (by omega) (by omega)
    rw [f_X9_goesBy_50]
    simp (disch := omega) only [ite_true, IM, IA, IR, IC, IN, nI_add, pk_mul, xin_n, cl_n, xgd_n, ↓xl_n, xb_n, xb2_n, xw_wV, wV_150, h2, le_n]
    rw [if_neg (by omega)]
    exact p1
theorem d9_87 {V : Nat → Int32} {M : xM} {n : Nat} (hn : V 6 = nI n) (hc : n ≤ 16) (a f : Int32) : ∀ (d i fu : Nat), i + d = n → d < fu → f_X9_goesBy_87 fu (wV M (reqV V i)) a f (nI (cN (exq V) i)) (nI i) = some (nI (cN (exq V) n), wV M (reqV V n)) := by
  intro d
  induction d with
  | zero =>
    intro i fu e1 e2
    obtain ⟨g, rfl⟩ : ∃ g, fu = g + 1 := ⟨fu - 1, by omega⟩
    have : i = n := by omega
    subst this
    have h6 : reqV V i 6 = nI i := (reqV_ne (fun q _ => by omega)).trans hn
    rw [f_X9_goesBy_87]
    simp (disch := omega) only [ite_true, IM, IA, IR, IC, IN, nI_add, pk_mul, xin_n, cl_n, xgd_n, ↓xl_n, xb_n, xb2_n, xw_wV, wV_150, h6, le_n]
    rw [if_pos (Nat.le_refl _)]
  | succ d ih =>
    intro i fu e1 e2
    obtain ⟨g, rfl⟩ : ∃ g, fu = g + 1 := ⟨fu - 1, by omega⟩
    have h6 : reqV V i 6 = nI n := (reqV_ne (fun q _ => by omega)).trans hn
    have h7 : reqV V i (756 + 10 * i + 7) = V (756 + 10 * i + 7) := reqV_ne (fun q _ => by omega)
    have h0 : reqV V i 0 = V 0 := reqV_ne (fun q _ => by omega)
    have hi : reqV V i (756 + 10 * i) = V (756 + 10 * i) := reqV_ne (fun q _ => by omega)
    have p1 := ih (i + 1) g (by omega) (by omega)
    have hs : cN (exq V) (i + 1) = cN (exq V) i + (if exq V i = true then 1 else 0) := rfl
    have hr : reqV V (i + 1) = if exq V i = true then upd (reqV V i) (756 + 10 * i) 2 else reqV V i := rfl
    rw [f_X9_goesBy_87]
    simp (disch := omega) only [ite_true, IM, IA, IR, IC, IN, nI_add, pk_mul, xin_n, cl_n, xgd_n, ↓xl_n, xb_n, xb2_n, xw_wV, wV_150, h6, le_n, isOpen9 wV_150, hi, h7, h0, ifb0]
    rw [if_neg (by omega)]
    unfold f_X9_goesBy_152
    simp (disch := omega) only [ite_true, IM, IA, IR, IC, IN, nI_add, pk_mul, xin_n, cl_n, xgd_n, ↓xl_n, xb_n, xb2_n, xw_wV, wV_150]
    by_cases w1 : V (756 + 10 * i) = 0
    · rw [if_pos w1]
      by_cases w2 : V 0 ≤ V (756 + 10 * i + 7)
      · have q : ¬ exq V i = true := fun z => absurd (of_decide_eq_true z).2 (Int32.not_lt.mpr w2)
        rw [if_neg q] at hs hr
        rw [hs, hr, Nat.add_zero] at p1
        rw [if_pos w2]
        exact p1
      · have q : exq V i = true := decide_eq_true ⟨w1, Int32.not_le.mp w2⟩
        rw [if_pos q] at hs hr
        rw [hs, hr] at p1
        rw [if_neg w2]
        exact p1
    · have q : ¬ exq V i = true := fun z => w1 (of_decide_eq_true z).1
      rw [if_neg q] at hs hr
      rw [hs, hr, Nat.add_zero] at p1
      rw [if_neg w1]
      exact p1
theorem dayV_rg {V : Nat → Int32} {a : Int32} (h : rg (V 0) 0 9999) (h1 : 1 ≤ a ∧ a ≤ 99) (h2 : V 0 + a ≤ 9999) : rg (V 0 + a) 0 9999 := by
  have g := rg_of h1
  have g1 := g.1
  have g2 := g.2
  have z1 : (1 : Int32).toInt = 1 := rfl
  have z2 : (99 : Int32).toInt = 99 := rfl
  have e1 := h.1
  have e2 := h.2
  refine ⟨?_, Int32.le_iff_toInt_le.mp h2⟩
  rw [Int32.toInt_add, Int.bmod_eq_of_le (by omega) (by omega)]
  omega
def dayV (V : Nat → Int32) (a : Int32) : Nat → Int32 := reqV (macV (upd V 0 (V 0 + a)) (nN V 2)) (nN V 6)
def dayN (V : Nat → Int32) (a : Int32) : Int32 := nI (cN (exq (macV (upd V 0 (V 0 + a)) (nN V 2))) (nN V 6))
theorem core_days {V : Nat → Int32} (ho : Ok V) (hz : Z916 V) {a : Int32} (f : Int32) (h1 : 1 ≤ a ∧ a ≤ 99) (h2 : V 0 + a ≤ 9999) : Core (fun _ => True) V (dayV V a) (dayN V a) (fun m => f_X8_tryDays_46 m a f) (fun m => f_X9_goesBy_38 m a f) := by
  have c1 := ok_c1 ho
  have c2 := ok_c2 ho
  have c3 := ok_c3 ho
  have c4 := ok_c4 ho
  have c6 := ok_c6 ho
  have w2 : upd V 0 (V 0 + a) 2 = nI (nN V 2) := (upd_ne (by decide)).trans (ok_n2 ho)
  have w6 : macV (upd V 0 (V 0 + a)) (nN V 2) 6 = nI (nN V 6) := (macV_ne (fun q _ => by omega)).trans ((upd_ne (by decide)).trans (ok_n6 ho))
  have e : ∀ j, j ≠ 0 → (∀ q, q < 4 → j ≠ 64 + 5 * q + 4) → (∀ q, q < 16 → j ≠ 756 + 10 * q) → dayV V a j = V j := fun j b1 b2 b3 => by
    unfold dayV
    rw [reqV_ne (fun q hq => b3 q (by omega)), macV_ne (fun q hq => b2 q (by omega)), upd_ne b1]
  have e0 : dayV V a 0 = V 0 + a := by
    unfold dayV
    rw [reqV_ne (fun q _ => by omega), macV_ne (fun q _ => by omega), upd_eq]
  have o1 : Ok (dayV V a) := by
    refine Ok_day ho e (by rw [e0]; exact dayV_rg ho.1.2.2.2.2.2.2.2.2.2.2.2.2 h1 h2) (fun r hr q => ?_)
    have := reqV_st q
    rw [macV_ne (fun q _ => by omega), upd_ne (by omega)] at this
    exact this
  refine ⟨fun M hM => ?_, fun M hM _ => ?_, fun j hj => ?_⟩
  · have s0 := w_day (St_0 hM hz) (V 0 + a)
    obtain ⟨M1, p1, p2⟩ := d8_61 w2 c2 a f (nN V 2) 0 xFU _ (by omega) (by unfold xFU; omega) s0
    obtain ⟨M2, q1, q2⟩ := d8_101 w6 c6 a f (nN V 6) 0 xFU _ (by omega) (by unfold xFU; omega) p2
    obtain ⟨r1, r2⟩ := St_end q2 (St_der q2 hM (e 3 (by decide) (fun q _ => by omega) (fun q _ => by omega)) (e 4 (by decide) (fun q _ => by omega) (fun q _ => by omega)) (fun j _ _ => e j (by omega) (fun q _ => by omega) (fun q _ => by omega)) (fun r _ => ⟨e _ (by omega) (fun q _ => by omega) (fun q _ => by omega), e _ (by omega) (fun q _ => by omega) (fun q _ => by omega)⟩) (fun r _ => e _ (by omega) (fun q _ => by omega) (fun q _ => by omega))) o1
    refine ⟨M2, ?_, r1, r2⟩
    show f_X8_tryDays_46 M a f = _
    unfold f_X8_tryDays_46
    rw [xl_n, xl_n, v_today hM]
    exact p1.trans q1
  · refine ⟨M, ?_, fun _ _ => rfl⟩
    show f_X9_goesBy_38 (wV M V) a f = _
    unfold f_X9_goesBy_38
    simp (disch := omega) only [ite_true, IM, IA, IR, IC, IN, nI_add, pk_mul, xin_n, cl_n, xgd_n, ↓xl_n, xb_n, xb2_n, xw_wV, wV_150]
    have p1 := d9_50 (M := M) w2 c2 a f (nN V 2) 0 xFU (by omega) (by unfold xFU; omega)
    have p2 := d9_87 (M := M) w6 c6 a f (nN V 6) 0 xFU (by omega) (by unfold xFU; omega)
    exact p1.trans p2
  · rw [e j (by omega) (fun q _ => by omega) (fun q _ => by omega)]; exact hz j hj
