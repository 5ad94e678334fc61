def mnV (s : Int32) (f : Nat → Int32) (m : Nat) : Nat → Int32
  | 0 => s
  | t + 1 => if m.testBit t = true then xmn (mnV s f m t) (f t) else mnV s f m t
theorem bt8 : ∀ m : Fin 16, ∀ t : Fin 4, ((nI m.val &&& ((1 : Int32) <<< ((nI t.val : Int32) &&& 31))) = 0) = (¬ m.val.testBit t.val = true) := fun m t => propext (by revert m t; decide +kernel)
theorem bt9 : ∀ m : Fin 16, ∀ t : Fin 4, ((((nI m.val : Int32) >>> ((nI t.val : Int32) &&& 31)) &&& 1) = 1) = (m.val.testBit t.val = true) := fun m t => propext (by revert m t; decide +kernel)
theorem bt_some : ∀ m : Fin 16, m.val ≠ 0 → ∃ t : Fin 4, m.val.testBit t.val = true := by decide +kernel
theorem xmn_big {s v : Int32} (h : v.toInt ≤ 100) (hs : 100 ≤ s.toInt) : xmn s v = v := by
  unfold xmn
  by_cases q : v < s
  · rw [if_pos q]
  · rw [if_neg q]
    have := Int32.le_iff_toInt_le.mp (Int32.not_lt.mp q)
    exact Int32.toInt_inj.mp (by omega)
theorem mn_eq {f : Nat → Int32} {m : Nat} (hf : ∀ t, t < 4 → rg (f t) 0 100) (hm : m < 16) (h0 : m ≠ 0) : mnV 1000 f m 4 = mnV 100 f m 4 := by
  have key : ∀ t, t ≤ 4 → (mnV 1000 f m t = mnV 100 f m t) ∨ (mnV 1000 f m t = 1000 ∧ mnV 100 f m t = 100 ∧ ∀ s, s < t → ¬ m.testBit s = true) := by
    intro t
    induction t with
    | zero => exact fun _ => Or.inr ⟨rfl, rfl, fun s hs => by omega⟩
    | succ t ih =>
      intro ht
      have e1 : mnV 1000 f m (t + 1) = if m.testBit t = true then xmn (mnV 1000 f m t) (f t) else mnV 1000 f m t := rfl
      have e2 : mnV 100 f m (t + 1) = if m.testBit t = true then xmn (mnV 100 f m t) (f t) else mnV 100 f m t := rfl
      rw [e1, e2]
      by_cases q : m.testBit t = true
      · rw [if_pos q, if_pos q]
        rcases ih (by omega) with w | ⟨w1, w2, w3⟩
        · rw [w]; exact Or.inl rfl
        · rw [w1, w2, xmn_big (hf t (by omega)).2 (by decide), xmn_big (hf t (by omega)).2 (by decide)]; exact Or.inl rfl
      · rw [if_neg q, if_neg q]
        rcases ih (by omega) with w | ⟨w1, w2, w3⟩
        · exact Or.inl w
        · refine Or.inr ⟨w1, w2, fun s hs => ?_⟩
          by_cases z : s = t
          · rw [z]; exact q
          · exact w3 s (by omega)
  rcases key 4 (Nat.le_refl _) with w | ⟨_, _, w3⟩
  · exact w
  · obtain ⟨t, ht⟩ := bt_some ⟨m, hm⟩ h0
    exact absurd ht (w3 t.val t.isLt)
theorem least_e {ct n : Nat} {M : xM} {b m : Nat} (hb : b + 4 ≤ n) (hn : n < 100000) (hm : m < 16) : f_X9_least ct n M (nI b) (nI m) = some (mnV 1000 (fun t => M ct (b + t)) m 4) := by
  have key : ∀ (d i fu : Nat), i + d = 4 → d < fu → f_X9_least_7 ct n M fu (nI b) (nI m) (mnV 1000 (fun t => M ct (b + t)) m i) (nI i) = some (mnV 1000 (fun t => M ct (b + t)) m 4) := by
    intro d
    induction d with
    | zero =>
      intro i fu e1 e2
      obtain ⟨g, rfl⟩ : ∃ g, fu = g + 1 := ⟨fu - 1, by omega⟩
      have : i = 4 := by omega
      subst this
      rw [f_X9_least_7, if_pos (by rw [li_4, le_n (by omega) (by omega)]; exact Nat.le_refl _)]
    | succ d ih =>
      intro i fu e1 e2
      obtain ⟨g, rfl⟩ : ∃ g, fu = g + 1 := ⟨fu - 1, by omega⟩
      have p1 := ih (i + 1) g (by omega) (by omega)
      have hs : mnV 1000 (fun t => M ct (b + t)) m (i + 1) = if m.testBit i = true then xmn (mnV 1000 (fun t => M ct (b + t)) m i) (M ct (b + i)) else mnV 1000 (fun t => M ct (b + t)) m i := rfl
      rw [hs] at p1
      rw [f_X9_least_7, if_neg (by rw [li_4, le_n (by omega) (by omega)]; omega)]
      unfold f_X9_least_42 f_X9_least_43
      have hbt := bt9 ⟨m, hm⟩ ⟨i, by omega⟩
      simp only [hbt]
      by_cases q : m.testBit i = true
      · rw [if_pos q] at p1 ⊢
        rw [nI_add, xin_n (by omega) (by omega), xgd_n, cl_n (by omega), xgd_n]
        simp only [xl_n, ir_1]
        rw [xmn_le] at p1
        by_cases w : mnV 1000 (fun t => M ct (b + t)) m i ≤ M ct (b + i)
        · rw [if_pos w] at p1 ⊢; exact p1
        · rw [if_neg w] at p1 ⊢; exact p1
      · rw [if_neg q] at p1 ⊢
        simp only [xl_n, ir_1]
        exact p1
  unfold f_X9_least
  rw [xl_n, xl_n]
  exact key 4 0 xFU (by omega) (by unfold xFU; omega)
def qlV (V : Nat → Int32) (p r : Nat) : Int32 := if V (420 + 9 * p) = V (84 + 5 * r) then mnV 100 (fun t => V (420 + 9 * p + 5 + t)) (nN V (84 + 5 * r + 1)) 4 else 0
theorem trk {V : Nat → Int32} (ho : Ok V) {r : Nat} (hr : r < nN V 3) : V (84 + 5 * r + 1) = nI (nN V (84 + 5 * r + 1)) ∧ nN V (84 + 5 * r + 1) < 16 ∧ nN V (84 + 5 * r + 1) ≠ 0 := by
  have h := (ho.2.2.2.1 r hr).2.2.1
  obtain ⟨k, hk, e⟩ := rg_ex (n := 15) ⟨Int.le_trans (by decide) h.1, h.2⟩ (by decide)
  have e2 : nN V (84 + 5 * r + 1) = k := nN_of e (by omega)
  rw [e2]
  refine ⟨e, by omega, fun z => ?_⟩
  rw [e, z] at h
  exact absurd h.1 (by decide)
theorem q8 {V : Nat → Int32} {M : xM} (h : Vw V M) {p r : Nat} (hp : p < nN V 4) (hr : r < nN V 3) : f_X8_qualityInPass M (nI p) (nI r) = some (qlV V p r) := by
  have ho := v_ok h
  have c4 := ok_c4 ho
  obtain ⟨t1, t2, t3⟩ := trk ho hr
  generalize hm : nN V (84 + 5 * r + 1) = m at *
  have key : ∀ (d i fu : Nat), i + d = 4 → d < fu → f_X8_qualityInPass_49 M fu (nI p) (nI r) (nI m) (mnV 100 (fun t => V (420 + 9 * p + 5 + t)) m i) (nI i) = some (mnV 100 (fun t => V (420 + 9 * p + 5 + t)) m 4) := by
    intro d
    induction d with
    | zero =>
      intro i fu e1 e2
      obtain ⟨g, rfl⟩ : ∃ g, fu = g + 1 := ⟨fu - 1, by omega⟩
      have : i = 4 := by omega
      subst this
      rw [f_X8_qualityInPass_49, if_pos (by rw [li_4, le_n (by omega) (by omega)]; exact Nat.le_refl _)]
    | succ d ih =>
      intro i fu e1 e2
      obtain ⟨g, rfl⟩ : ∃ g, fu = g + 1 := ⟨fu - 1, by omega⟩
      have p1 := ih (i + 1) g (by omega) (by omega)
      have hs : mnV 100 (fun t => V (420 + 9 * p + 5 + t)) m (i + 1) = if m.testBit i = true then xmn (mnV 100 (fun t => V (420 + 9 * p + 5 + t)) m i) (V (420 + 9 * p + 5 + i)) else mnV 100 (fun t => V (420 + 9 * p + 5 + t)) m i := rfl
      rw [hs] at p1
      have gt : f_X6_get 10 11 264 M (nI p) (7 + nI i) = some (V (420 + 9 * p + 5 + i)) := by
        rw [ia_7, getk_pas h (7 + i) hp rfl (by omega), h.2.1.1.2.2.2.2.2.2.1 p i (by omega) (by omega)]
      rw [f_X8_qualityInPass_49, if_neg (by rw [li_4, le_n (by omega) (by omega)]; omega)]
      unfold f_X8_qualityInPass_87
      have hbt := bt8 ⟨m, t2⟩ ⟨i, by omega⟩
      simp only [hbt, gt, xb_n, xl_n, ir_1]
      by_cases q : m.testBit i = true
      · rw [if_pos q] at p1
        rw [if_neg (fun w => w q)]
        exact p1
      · rw [if_neg q] at p1
        rw [if_pos q]
        exact p1
  unfold f_X8_qualityInPass qlV
  rw [g_pas_0 h hp, xb_n, g_rec_0 h hr, xb_n]
  by_cases q : V (420 + 9 * p) = V (84 + 5 * r)
  · rw [if_pos q, if_pos q, g_rec_1 h hr, xb_n, xl_n, xl_n, xl_n, t1, hm]
    exact key 4 0 xFU (by omega) (by unfold xFU; omega)
  · rw [if_neg q, if_neg q]
theorem q9 {V : Nat → Int32} {M : xM} (h : M 150 = V) (ho : Ok V) {p r : Nat} (hp : p < nN V 4) (hr : r < nN V 3) : f_X9_qualityIn M (nI p) (nI r) = some (qlV V p r) := by
  have c4 := ok_c4 ho
  have c3 := ok_c3 ho
  obtain ⟨t1, t2, t3⟩ := trk ho hr
  unfold f_X9_qualityIn qlV
  simp (disch := omega) only [ite_true, IM, IA, IR, IC, IN, nI_add, pk_mul, xin_n, cl_n, xgd_n, ↓xl_n, xb_n, xb2_n, xw_wV, wV_150, h]
  rw [t1, least_e (by omega) (by decide) t2, h, xb_n]
  by_cases q : V (420 + 9 * p) = V (84 + 5 * r)
  · rw [if_pos q, if_pos q, mn_eq (fun t ht => (ho.2.2.2.2.2.2.1 p hp).2.2.2.2 t ht) t2 t3]
  · rw [if_neg q, if_neg q]
def bpQ (V : Nat → Int32) (r : Nat) : Nat → Int32
  | 0 => 0
  | i + 1 => if qlV V i r ≤ bpQ V r i then bpQ V r i else qlV V i r
def bpI (V : Nat → Int32) (r : Nat) (d : Int32) : Nat → Int32
  | 0 => d
  | i + 1 => if qlV V i r ≤ bpQ V r i then bpI V r d i else nI i
theorem bp_cases (V : Nat → Int32) (r : Nat) : ∀ n, (∃ m, m < n ∧ ∀ d, bpI V r d n = nI m) ∨ (∀ d, bpI V r d n = d)
  | 0 => Or.inr (fun _ => rfl)
  | n + 1 => by
    have e : ∀ d, bpI V r d (n + 1) = if qlV V n r ≤ bpQ V r n then bpI V r d n else nI n := fun _ => rfl
    by_cases q : qlV V n r ≤ bpQ V r n
    · rcases bp_cases V r n with ⟨m, h1, h2⟩ | h2
      · exact Or.inl ⟨m, by omega, fun d => by rw [e, if_pos q]; exact h2 d⟩
      · exact Or.inr (fun d => by rw [e, if_pos q]; exact h2 d)
    · exact Or.inl ⟨n, by omega, fun d => by rw [e, if_neg q]⟩
theorem b8 {V : Nat → Int32} {M : xM} (h : Vw V M) {r : Nat} (hr : r < nN V 3) : f_X8_findBestPass M (nI r) = some (bpI V r (-6) (nN V 4)) := by
  have ho := v_ok h
  have c4 := ok_c4 ho
  have key : ∀ (d i fu : Nat), i + d = nN V 4 → d < fu → f_X8_findBestPass_8 M fu (nI r) (bpI V r (-6) i) (bpQ V r i) (nI i) = some (bpI V r (-6) (nN V 4)) := by
    intro d
    induction d with
    | zero =>
      intro i fu e1 e2
      obtain ⟨g, rfl⟩ : ∃ g, fu = g + 1 := ⟨fu - 1, by omega⟩
      have : i = nN V 4 := by omega
      subst this
      rw [f_X8_findBestPass_8, v_rows_pas h, if_pos (by rw [le_n (by omega) (by omega)]; exact Nat.le_refl _)]
    | succ d ih =>
      intro i fu e1 e2
      obtain ⟨g, rfl⟩ : ∃ g, fu = g + 1 := ⟨fu - 1, by omega⟩
      have p1 := ih (i + 1) g (by omega) (by omega)
      have s1 : bpQ V r (i + 1) = if qlV V i r ≤ bpQ V r i then bpQ V r i else qlV V i r := rfl
      have s2 : bpI V r (-6) (i + 1) = if qlV V i r ≤ bpQ V r i then bpI V r (-6) i else nI i := rfl
      rw [s1, s2] at p1
      rw [f_X8_findBestPass_8, v_rows_pas h, if_neg (by rw [le_n (by omega) (by omega)]; omega), q8 h (by omega) hr]
      unfold f_X8_findBestPass_44
      simp only [xb_n, xl_n, ir_1]
      by_cases q : qlV V i r ≤ bpQ V r i
      · rw [if_pos q, if_pos q] at p1
        rw [if_pos q]; exact p1
      · rw [if_neg q, if_neg q] at p1
        rw [if_neg q]; exact p1
  unfold f_X8_findBestPass
  rw [xl_n, xl_n, xl_n]
  exact key (nN V 4) 0 xFU (by omega) (by unfold xFU; omega)
theorem b9 {V : Nat → Int32} {M : xM} (h : M 150 = V) (ho : Ok V) {r : Nat} (hr : r < nN V 3) : f_X9_bestFor M (nI r) = some (bpI V r (-1) (nN V 4)) := by
  have c4 := ok_c4 ho
  have n4 := ok_n4 ho
  have key : ∀ (d i fu : Nat), i + d = nN V 4 → d < fu → f_X9_bestFor_7 M fu (nI r) (bpI V r (-1) i) (bpQ V r i) (nI i) = some (bpI V r (-1) (nN V 4)) := by
    intro d
    induction d with
    | zero =>
      intro i fu e1 e2
      obtain ⟨g, rfl⟩ : ∃ g, fu = g + 1 := ⟨fu - 1, by omega⟩
      have : i = nN V 4 := by omega
      subst this
      rw [f_X9_bestFor_7]
      simp (disch := omega) only [ite_true, IM, IA, IR, IC, IN, nI_add, pk_mul, xin_n, cl_n, xgd_n, ↓xl_n, xb_n, xb2_n, xw_wV, wV_150, h, n4]
      rw [if_pos (by rw [le_n (by omega) (by omega)]; exact Nat.le_refl _)]
    | succ d ih =>
      intro i fu e1 e2
      obtain ⟨g, rfl⟩ : ∃ g, fu = g + 1 := ⟨fu - 1, by omega⟩
      have p1 := ih (i + 1) g (by omega) (by omega)
      have s1 : bpQ V r (i + 1) = if qlV V i r ≤ bpQ V r i then bpQ V r i else qlV V i r := rfl
      have s2 : bpI V r (-1) (i + 1) = if qlV V i r ≤ bpQ V r i then bpI V r (-1) i else nI i := rfl
      rw [s1, s2] at p1
      rw [f_X9_bestFor_7]
      unfold f_X9_bestFor_39 f_X9_bestFor_52
      simp (disch := omega) only [ite_true, IM, IA, IR, IC, IN, nI_add, pk_mul, xin_n, cl_n, xgd_n, ↓xl_n, xb_n, xb2_n, xw_wV, wV_150, h, n4, q9 h ho (show i < nN V 4 by omega) hr]
      rw [if_neg (by rw [le_n (by omega) (by omega)]; omega)]
      by_cases q : qlV V i r ≤ bpQ V r i
      · rw [if_pos q, if_pos q] at p1
        rw [if_pos q, if_pos q]; exact p1
      · rw [if_neg q, if_neg q] at p1
        rw [if_neg q, if_neg q]; exact p1
  unfold f_X9_bestFor
  rw [xl_n, xl_n, xl_n]
  exact key (nN V 4) 0 xFU (by omega) (by unfold xFU; omega)
