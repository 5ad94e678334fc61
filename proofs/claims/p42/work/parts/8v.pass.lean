/-! the law's check of the passes -/
def b4 (b0 b1 b2 b3 : Bool) (t : Nat) : Bool := if t = 0 then b0 else if t = 1 then b1 else if t = 2 then b2 else b3
theorem th_bit : ∀ b0 b1 b2 b3 : Bool, ∀ t : Fin 4, ((((thB (b4 b0 b1 b2 b3) 4 : Int32) >>> ((nI t.val : Int32) &&& 31)) &&& 1) = 1) = (b4 b0 b1 b2 b3 t.val = true) := fun b0 b1 b2 b3 t => propext (by revert b0 b1 b2 b3 t; decide +kernel)
theorem th_bit0 : ∀ b0 b1 b2 b3 : Bool, ∀ t : Fin 4, ((((thB (b4 b0 b1 b2 b3) 4 : Int32) >>> ((nI t.val : Int32) &&& 31)) &&& 1) = 0) = (b4 b0 b1 b2 b3 t.val = false) := fun b0 b1 b2 b3 t => propext (by revert b0 b1 b2 b3 t; decide +kernel)
theorem th_pos : ∀ b0 b1 b2 b3 : Bool, ∀ t : Fin 4, b4 b0 b1 b2 b3 t.val = true → 0 < thB (b4 b0 b1 b2 b3) 4 := by decide +kernel
theorem bk_in : ∀ b0 b1 b2 b3 c0 c1 c2 c3 : Bool, (thB (b4 (b0 && c0) (b1 && c1) (b2 && c2) (b3 && c3)) 4 &&& (thB (b4 b0 b1 b2 b3) 4 ^^^ (-1))) = 0 := by decide +kernel
theorem th_sub : ∀ b0 b1 b2 b3 : Bool, ∀ m : Fin 16, (∀ t : Fin 4, m.val.testBit t.val = true → b4 b0 b1 b2 b3 t.val = true) → (nI m.val &&& (thB (b4 b0 b1 b2 b3) 4 ^^^ (-1))) = 0 := by decide +kernel
def tkb (V : Rw) (p t : Nat) : Bool := decide (0 < V (420 + 9 * p + 5 + t))
theorem tB_b {c : Prop} [Decidable c] {b : Bool} (h : b = decide c) (t : Int32) : tB c t = tB (b = true) t := by
  subst h
  unfold tB
  by_cases q : c
  · rw [if_pos q, if_pos (decide_eq_true q)]
  · rw [if_neg q, if_neg (fun z => q (of_decide_eq_true z))]
theorem tk_th (V : Rw) (p : Nat) : tkO V p = thB (b4 (tkb V p 0) (tkb V p 1) (tkb V p 2) (tkb V p 3)) 4 := by
  unfold tkO
  rw [tB_b (b := tkb V p 0) rfl, tB_b (b := tkb V p 1) rfl, tB_b (b := tkb V p 2) rfl, tB_b (b := tkb V p 3) rfl]
  exact tk_fin _ _ _ _
theorem bk_th (V : Rw) (p : Nat) : ∃ c0 c1 c2 c3 : Bool, bkO V p = thB (b4 (tkb V p 0 && c0) (tkb V p 1 && c1) (tkb V p 2 && c2) (tkb V p 3 && c3)) 4 := by
  refine ⟨decide (sdT (lyP V p) 0 ≠ V (420 + 9 * p + 3)), decide (sdT (lyP V p) 1 ≠ V (420 + 9 * p + 3)), decide (sdT (lyP V p) 2 ≠ V (420 + 9 * p + 3)), decide (sdT (lyP V p) 3 ≠ V (420 + 9 * p + 3)), ?_⟩
  have e : ∀ (t : Nat) (w : Int32), (tkb V p t && decide (sdT (lyP V p) w ≠ V (420 + 9 * p + 3))) = decide (0 < V (420 + 9 * p + 5 + t) ∧ sdT (lyP V p) w ≠ V (420 + 9 * p + 3)) := fun t w => by
    unfold tkb
    rw [Bool.decide_and]
  unfold bkO
  rw [tB_b (b := tkb V p 0 && decide (sdT (lyP V p) 0 ≠ V (420 + 9 * p + 3))) (e 0 0), tB_b (b := tkb V p 1 && decide (sdT (lyP V p) 1 ≠ V (420 + 9 * p + 3))) (e 1 1), tB_b (b := tkb V p 2 && decide (sdT (lyP V p) 2 ≠ V (420 + 9 * p + 3))) (e 2 2), tB_b (b := tkb V p 3 && decide (sdT (lyP V p) 3 ≠ V (420 + 9 * p + 3))) (e 3 3)]
  exact tk_fin _ _ _ _
theorem b4_t (V : Rw) (p : Nat) {t : Nat} (ht : t < 4) : b4 (tkb V p 0) (tkb V p 1) (tkb V p 2) (tkb V p 3) t = tkb V p t := by
  rcases (show t = 0 ∨ t = 1 ∨ t = 2 ∨ t = 3 by omega) with rfl | rfl | rfl | rfl <;> rfl
/-! sums over carriers and machines -/
theorem ps_all {V : Rw} (ho : Ok V) : sN (psO V) (nN V 1) = nN V 4 := by
  have c1 := ok_c1 ho
  have e : sN (psO V) (nN V 1) = sN (fun r => cN (fun p => true && decide (nN V (420 + 9 * p) = r)) (nN V 4)) (nN V 1) := sN_c (fun r hr => cN_congr (fun p hp => by
    have k := okP ho hp
    have k2 := k.2.1
    rw [Bool.true_and]
    refine decide_eq_decide.mpr ?_
    rw [k.1, eq_n (by omega) (by omega)]))
  rw [e, sN_cN]
  exact cN_all (fun p hp => by rw [Bool.true_and]; exact decide_eq_true (okP ho hp).2.1)
theorem pm_all {V : Rw} (ho : Ok V) : sN (pmO V) (nN V 2) = nN V 4 := by
  have c1 := ok_c2 ho
  have e : sN (pmO V) (nN V 2) = sN (fun r => cN (fun p => true && decide (nN V (420 + 9 * p + 1) = r)) (nN V 4)) (nN V 2) := sN_c (fun r hr => cN_congr (fun p hp => by
    have k := okP ho hp
    have k2 := k.2.2.2.1
    rw [Bool.true_and]
    refine decide_eq_decide.mpr ?_
    rw [k.2.2.1, eq_n (by omega) (by omega)]))
  rw [e, sN_cN]
  exact cN_all (fun p hp => by rw [Bool.true_and]; exact decide_eq_true (okP ho hp).2.2.2.1)
theorem p250 {V : Rw} {M : xM} (hv : Vw V M) (h : I42 V) {p : Nat} (hp : p < nN V 4) (k : Int32 → Int32 → Int32 → Int32 → Int32 → Option Int32) (i1 i2 i3 : Int32) : ∀ (d t fu : Nat), t + d = 4 → d < fu → f_L_passes_250 M k fu i1 i2 i3 1 (nI p) (tkO V p) (nI t) = k i1 i2 i3 1 (nI (p + 1)) := by
  have hP := h.2.2.2.1 p hp
  have hO := okP (v_ok hv) hp
  have one : ¬ (1 : Int32) = 0 := by decide
  intro d
  induction d with
  | zero =>
    intro t fu e1 e2
    obtain ⟨g, rfl⟩ : ∃ g, fu = g + 1 := ⟨fu - 1, by omega⟩
    have : t = 4 := by omega
    rw [f_L_passes_250, this, if_pos (by decide)]
    unfold f_L_passes_339
    rw [xl_n, nI_1]
  | succ d ih =>
    intro t fu e1 e2
    obtain ⟨g, rfl⟩ : ∃ g, fu = g + 1 := ⟨fu - 1, by omega⟩
    have ht : t < 4 := by omega
    have nx := ih (t + 1) g (by omega) (by omega)
    have r1 : ∀ s : Int32, f_L_passes_331 M k (f_L_passes_250 M k g) i1 i2 i3 1 (nI p) (tkO V p) (nI t) 1 = k i1 i2 i3 1 (nI (p + 1)) := fun s => by
      unfold f_L_passes_331
      rw [xl_n, xl_n, nI_1]
      exact nx
    have bt := th_bit (tkb V p 0) (tkb V p 1) (tkb V p 2) (tkb V p 3) ⟨t, ht⟩
    have bt0 := th_bit0 (tkb V p 0) (tkb V p 1) (tkb V p 2) (tkb V p 3) ⟨t, ht⟩
    rw [← tk_th, b4_t V p ht] at bt bt0
    rw [f_L_passes_250, if_neg (by show ¬ nI 4 ≤ nI t; rw [le_n (by omega) (by omega)]; omega), if_neg one, l_cap hv hp ht, xb_n]
    by_cases q : t < trN (nN V (24 + 5 * nN V (420 + 9 * p) + 2))
    · have g0 := hO.2.2.2.2 t ht
      have nm : ¬ V (420 + 9 * p + 5 + t) = -1 := fun z => by
        have := g0.1
        rw [z] at this
        exact absurd this (by decide)
      rw [if_pos q, if_neg nm, xb_n]
      by_cases w : V (420 + 9 * p + 5 + t) ≤ 0
      · have z : tkb V p t = false := decide_eq_false (Int32.not_lt.mpr w)
        rw [if_pos w]
        unfold f_L_passes_307
        rw [if_neg (by rw [bt, z]; decide)]
        unfold f_L_passes_323
        rw [if_pos rfl]
        exact r1 0
      · have z : tkb V p t = true := decide_eq_true (Int32.not_le.mp w)
        rw [if_neg w]
        unfold f_L_passes_307
        rw [if_pos (by rw [bt]; exact z)]
        unfold f_L_passes_323
        rw [if_pos rfl]
        exact r1 0
    · have z0 := hP.2.2.2 t ht (by omega)
      have z : tkb V p t = false := by
        unfold tkb
        rw [z0]
        decide
      rw [if_neg q, if_pos rfl, if_pos (by rw [bt0]; exact z)]
      exact r1 0
theorem p199 {V : Rw} {M : xM} (hv : Vw V M) (h : I42 V) : ∀ (d p fu : Nat), p + d = nN V 4 → d < fu → f_L_passes_199 M fu (nI (nN V 4)) (nI (nN V 4)) (nI (nN V 4)) 1 (nI p) = some 1 := by
  have c4 := ok_c4 (v_ok hv)
  have one : ¬ (1 : Int32) = 0 := by decide
  intro d
  induction d with
  | zero =>
    intro p fu e1 e2
    obtain ⟨g, rfl⟩ : ∃ g, fu = g + 1 := ⟨fu - 1, by omega⟩
    have : p = nN V 4 := by omega
    rw [f_L_passes_199, this, if_pos (by rw [le_n (by omega) (by omega)]; exact Nat.le_refl _)]
    unfold f_L_passes_345
    rw [if_neg one, if_pos rfl, if_pos rfl]
  | succ d ih =>
    intro p fu e1 e2
    obtain ⟨g, rfl⟩ : ∃ g, fu = g + 1 := ⟨fu - 1, by omega⟩
    have hp : p < nN V 4 := by omega
    obtain ⟨-, -, ⟨t, t1, t2⟩, -⟩ := h.2.2.2.1 p hp
    have ps : 0 < tkO V p := by
      rw [tk_th]
      refine th_pos _ _ _ _ ⟨t, t1⟩ ?_
      rw [b4_t V p t1]
      exact decide_eq_true t2
    have sub : (bkO V p &&& (tkO V p ^^^ (-1))) = 0 := by
      obtain ⟨c0, c1, c2, c3, e⟩ := bk_th V p
      rw [e, tk_th]
      exact bk_in _ _ _ _ _ _ _ _
    rw [f_L_passes_199, if_neg (by rw [le_n (by omega) (by omega)]; omega), if_neg one, l_pas_5 hv hp, xb_n, xl_n, if_neg (Int32.not_le.mpr ps), l_pas_6 hv hp, xb_n, if_pos sub]
    unfold f_L_passes_245
    rw [xl_n, xl_n]
    exact (p250 hv h hp _ _ _ _ 4 0 xFU (by omega) (by unfold xFU; omega)).trans (ih (p + 1) g (by omega) (by omega))
theorem p95 {V : Rw} {M : xM} (hv : Vw V M) (h : I42 V) {m : Nat} (hm : m < nN V 2) (k : Int32 → Int32 → Int32 → Int32 → Int32 → Option Int32) (i2 i3 : Int32) : ∀ (d p fu : Nat), p + d = nN V 4 → d < fu → f_L_passes_95 M k fu (nI (nN V 4)) i2 i3 1 (nI m) (lfV V m p) (nI p) = k (nI (nN V 4)) i2 i3 1 (nI (m + 1)) := by
  have ho := v_ok hv
  have c4 := ok_c4 ho
  have one : ¬ (1 : Int32) = 0 := by decide
  obtain ⟨m1, m2⟩ := h.2.2.2.2 m hm
  intro d
  induction d with
  | zero =>
    intro p fu e1 e2
    obtain ⟨g, rfl⟩ : ∃ g, fu = g + 1 := ⟨fu - 1, by omega⟩
    have : p = nN V 4 := by omega
    rw [f_L_passes_95, this, if_pos (by rw [le_n (by omega) (by omega)]; exact Nat.le_refl _), if_neg one, l_mac_4 hv hm, xb_n, if_pos m2, ← m2, if_neg (by rw [Int32.lt_iff_toInt_lt]; have := m1.1; have z : (0 : Int32).toInt = 0 := rfl; omega)]
    unfold f_L_passes_188
    rw [xl_n, xl_n, nI_1]
  | succ d ih =>
    intro p fu e1 e2
    obtain ⟨g, rfl⟩ : ∃ g, fu = g + 1 := ⟨fu - 1, by omega⟩
    have hp : p < nN V 4 := by omega
    have nx := ih (p + 1) g (by omega) (by omega)
    have st : lfV V m (p + 1) = lfV V m p - (if V (420 + 9 * p + 1) = nI m ∧ V (420 + 9 * p + 4) = V 0 then tmV V (nN V (420 + 9 * p)) (V (420 + 9 * p + 2)) else 0) := rfl
    have fin : ∀ x : Int32, lfV V m (p + 1) = lfV V m p - x → f_L_passes_152 M k (f_L_passes_95 M k g) (nI (nN V 4)) i2 i3 1 (nI m) (lfV V m p) (nI p) (lfV V m p) x = k (nI (nN V 4)) i2 i3 1 (nI (m + 1)) := fun x hx => by
      unfold f_L_passes_152
      rw [xl_n, xl_n, nI_1, ← hx]
      exact nx
    obtain ⟨⟨kd, k1, k2, k3⟩, -⟩ := h.2.2.2.1 p hp
    have hO := okP ho hp
    rw [f_L_passes_95, if_neg (by rw [le_n (by omega) (by omega)]; omega), l_pas_1 hv hp, xb_n]
    by_cases q1 : V (420 + 9 * p + 1) = nI m
    · rw [if_pos q1, l_pas_4 hv hp, xb_n, t_0 hv, xb_n]
      by_cases q2 : V (420 + 9 * p + 4) = V 0
      · rw [if_pos q2, l_pas_0 hv hp, xb_n, l_pas_2 hv hp, xb_n, hO.1, l_dur hv hO.2.1 k1 k2 k3, xb_n]
        exact fin _ (by rw [st, if_pos ⟨q1, q2⟩])
      · rw [if_neg q2]
        unfold f_L_passes_151
        exact fin _ (by rw [st, if_neg (fun z => q2 z.2)])
    · rw [if_neg q1]
      unfold f_L_passes_151
      exact fin _ (by rw [st, if_neg (fun z => q1 z.1)])
theorem p67 {V : Rw} {M : xM} (hv : Vw V M) (h : I42 V) : ∀ (d m fu : Nat), m + d = nN V 2 → d < fu → f_L_passes_67 M fu (nI (nN V 4)) (nI (nN V 4)) (nI (sN (pmO V) m)) 1 (nI m) = some 1 := by
  have ho := v_ok hv
  have c2 := ok_c2 ho
  have c4 := ok_c4 ho
  intro d
  induction d with
  | zero =>
    intro m fu e1 e2
    obtain ⟨g, rfl⟩ : ∃ g, fu = g + 1 := ⟨fu - 1, by omega⟩
    have : m = nN V 2 := by omega
    rw [f_L_passes_67, t_2 hv, xb_n, ok_n2 ho, this, if_pos (by rw [le_n (by omega) (by omega)]; exact Nat.le_refl _), xl_n, pm_all ho]
    exact p199 hv h (nN V 4) 0 xFU (by omega) (by unfold xFU; omega)
  | succ d ih =>
    intro m fu e1 e2
    obtain ⟨g, rfl⟩ : ∃ g, fu = g + 1 := ⟨fu - 1, by omega⟩
    have hm : m < nN V 2 := by omega
    rw [f_L_passes_67, t_2 hv, xb_n, ok_n2 ho, if_neg (by rw [le_n (by omega) (by omega)]; omega), xl_n, l_mac_5 hv hm, xb_n, xl_n, xl_n, nI_add]
    exact (p95 hv h hm _ _ _ (nN V 4) 0 xFU (by omega) (by unfold xFU; omega)).trans (ih (m + 1) g (by omega) (by omega))
theorem p16 {V : Rw} {M : xM} (hv : Vw V M) (h : I42 V) : ∀ (d c fu : Nat), c + d = nN V 1 → d < fu → f_L_passes_16 M fu (nI (nN V 4)) (nI (sN (psO V) c)) 0 1 (nI c) = some 1 := by
  have ho := v_ok hv
  have c1 := ok_c1 ho
  have c4 := ok_c4 ho
  have one : ¬ (1 : Int32) = 0 := by decide
  intro d
  induction d with
  | zero =>
    intro c fu e1 e2
    obtain ⟨g, rfl⟩ : ∃ g, fu = g + 1 := ⟨fu - 1, by omega⟩
    have : c = nN V 1 := by omega
    rw [f_L_passes_16, t_1 hv, xb_n, ok_n1 ho, this, if_pos (by rw [le_n (by omega) (by omega)]; exact Nat.le_refl _), xl_n, ps_all ho]
    exact p67 hv h (nN V 2) 0 xFU (by omega) (by have := ok_c2 ho; unfold xFU; omega)
  | succ d ih =>
    intro c fu e1 e2
    obtain ⟨g, rfl⟩ : ∃ g, fu = g + 1 := ⟨fu - 1, by omega⟩
    have hc : c < nN V 1 := by omega
    have pl := (h.2.2.1 c hc).1
    rw [f_L_passes_16, t_1 hv, xb_n, ok_n1 ho, if_neg (by rw [le_n (by omega) (by omega)]; omega), l_car_5 hv hc, xb_n, xl_n, nI_add, if_neg one, l_car_4 hv hc, xb_n, if_neg (by rw [Int32.lt_iff_toInt_lt]; have z : (0 : Int32).toInt = 0 := rfl; omega)]
    unfold f_L_passes_56
    rw [xl_n, xl_n, nI_1]
    exact ih (c + 1) g (by omega) (by omega)
theorem ck_passes {V : Rw} {M : xM} (hv : Vw V M) (h : I42 V) : f_L_passes M = some 1 := by
  have ho := v_ok hv
  unfold f_L_passes
  rw [t_4 hv, xb_n, xl_n, xl_n, xl_n, xl_n, xl_n, ok_n4 ho]
  exact p16 hv h (nN V 1) 0 xFU (by omega) (by have := ok_c1 ho; unfold xFU; omega)
/-! the law's check of the best passes -/
theorem mn_le {s : Int32} {f : Nat → Int32} {m : Nat} : ∀ {n t : Nat}, t < n → m.testBit t = true → mnV s f m n ≤ f t
  | 0, t, h, _ => by omega
  | n + 1, t, h, hb => by
    unfold mnV
    by_cases e : t = n
    · subst e
      rw [if_pos hb, xmn_le]
      split
      · assumption
      · exact Int32.le_refl _
    · have ih := mn_le (s := s) (f := f) (n := n) (t := t) (by omega) hb
      by_cases q : m.testBit n = true
      · rw [if_pos q, xmn_le]
        split
        · exact ih
        · rename_i z
          exact Int32.le_trans (Int32.le_of_lt (Int32.not_le.mp z)) ih
      · rw [if_neg q]; exact ih
theorem mn_ge {s : Int32} {f : Nat → Int32} {m : Nat} (hs : 0 ≤ s) : ∀ {n : Nat}, (∀ t, t < n → 0 ≤ f t) → 0 ≤ mnV s f m n
  | 0, _ => hs
  | n + 1, h => by
    have ih := mn_ge (f := f) (m := m) hs (n := n) (fun t ht => h t (by omega))
    unfold mnV
    split
    · rw [xmn_le]
      split
      · exact ih
      · exact h n (by omega)
    · exact ih
theorem ql_ge {V : Rw} (ho : Ok V) {p r : Nat} (hp : p < nN V 4) : 0 ≤ qlV V p r := by
  unfold qlV
  split
  · refine mn_ge (by decide) (fun t ht => ?_)
    have g := ((okP ho hp).2.2.2.2 t ht).1
    rw [Int32.le_iff_toInt_le]
    have z : (0 : Int32).toInt = 0 := rfl
    omega
  · decide
/-- the best so far -/
theorem bp_spec {V : Rw} (ho : Ok V) (r : Nat) : ∀ n, n ≤ nN V 4 → ((∀ d, bpI V r d n = d) ∧ bpQ V r n = 0 ∧ ∀ p, p < n → qlV V p r = 0) ∨ ∃ m, m < n ∧ (∀ d, bpI V r d n = nI m) ∧ bpQ V r n = qlV V m r ∧ 0 < qlV V m r ∧ ∀ p, p < n → qlV V p r < qlV V m r ∨ (qlV V p r = qlV V m r ∧ m ≤ p)
  | 0, _ => Or.inl ⟨fun _ => rfl, rfl, fun p hp => by omega⟩
  | n + 1, hn => by
    have g := ql_ge ho (r := r) (show n < nN V 4 by omega)
    have sI : ∀ d, bpI V r d (n + 1) = if qlV V n r ≤ bpQ V r n then bpI V r d n else nI n := fun _ => rfl
    have sQ : bpQ V r (n + 1) = if qlV V n r ≤ bpQ V r n then bpQ V r n else qlV V n r := rfl
    simp only [sI, sQ]
    rcases bp_spec ho r n (by omega) with ⟨h1, h2, h3⟩ | ⟨m, h1, h2, h3, h4, h5⟩
    · by_cases q : qlV V n r ≤ bpQ V r n
      · left
        rw [if_pos q]
        rw [h2] at q
        refine ⟨fun d => by rw [if_pos (by rw [h2]; exact q)]; exact h1 d, h2, fun p hp => ?_⟩
        by_cases e : p = n
        · subst e; exact Int32.le_antisymm q g
        · exact h3 p (by omega)
      · right
        have q2 : 0 < qlV V n r := by rw [h2] at q; exact Int32.not_le.mp q
        refine ⟨n, by omega, fun d => by rw [if_neg q], by rw [if_neg q], q2, fun p hp => ?_⟩
        by_cases e : p = n
        · subst e; exact Or.inr ⟨rfl, Nat.le_refl _⟩
        · left; rw [h3 p (by omega)]; exact q2
    · right
      by_cases q : qlV V n r ≤ bpQ V r n
      · refine ⟨m, by omega, fun d => by rw [if_pos q]; exact h2 d, by rw [if_pos q]; exact h3, h4, fun p hp => ?_⟩
        by_cases e : p = n
        · subst e
          rw [h3] at q
          by_cases e2 : qlV V p r = qlV V m r
          · exact Or.inr ⟨e2, by omega⟩
          · left
            exact Int32.lt_of_le_of_ne q e2
        · exact h5 p (by omega)
      · have q2 : qlV V m r < qlV V n r := by rw [h3] at q; exact Int32.not_le.mp q
        refine ⟨n, by omega, fun d => by rw [if_neg q], by rw [if_neg q], Int32.lt_trans h4 q2, fun p hp => ?_⟩
        by_cases e : p = n
        · subst e; exact Or.inr ⟨rfl, Nat.le_refl _⟩
        · left
          rcases h5 p (by omega) with z | ⟨z, -⟩
          · exact Int32.lt_trans z q2
          · rw [z]; exact q2
