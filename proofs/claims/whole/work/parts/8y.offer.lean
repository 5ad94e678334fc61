/-! fewestPasses: the class's needs and offers -/
def apN (N : Nat → Nat) (k m : Nat) : Nat → Nat := fun i => if i = k then m else N i
theorem apN_eq {N : Nat → Nat} {k m : Nat} : apN N k m k = m := if_pos rfl
theorem apN_ne {N : Nat → Nat} {k m i : Nat} (h : i ≠ k) : apN N k m i = N i := if_neg h
def thK (b : Nat → Bool) : Nat → Int32
  | 0 => 0
  | t + 1 => if b t = true then thK b t else thK b t ||| ((1 : Int32) <<< ((nI t : Int32) &&& 31))
theorem thK_congr {b b2 : Nat → Bool} : ∀ {n : Nat}, (∀ j, j < n → b j = b2 j) → thK b n = thK b2 n
  | 0, _ => rfl
  | n + 1, h => by
    have e1 : thK b (n + 1) = if b n = true then thK b n else thK b n ||| ((1 : Int32) <<< ((nI n : Int32) &&& 31)) := rfl
    have e2 : thK b2 (n + 1) = if b2 n = true then thK b2 n else thK b2 n ||| ((1 : Int32) <<< ((nI n : Int32) &&& 31)) := rfl
    rw [e1, e2, thK_congr (fun j hj => h j (by omega)), h n (by omega)]
theorem thK_e {f : Nat → Int32} {q : Int32} : ∀ n, thM f q n = thK (fun t => decide (f t < q)) n
  | 0 => rfl
  | n + 1 => by
    have e1 : thM f q (n + 1) = if f n < q then thM f q n else thM f q n ||| ((1 : Int32) <<< ((nI n : Int32) &&& 31)) := rfl
    have e2 : thK (fun t => decide (f t < q)) (n + 1) = if decide (f n < q) = true then thK (fun t => decide (f t < q)) n else thK (fun t => decide (f t < q)) n ||| ((1 : Int32) <<< ((nI n : Int32) &&& 31)) := rfl
    rw [e1, e2, thK_e n]
    by_cases w : f n < q
    · rw [if_pos w, if_pos (decide_eq_true w)]
    · rw [if_neg w, if_neg (by rw [decide_eq_false w]; decide)]
def b4 (b0 b1 b2 b3 : Bool) (t : Nat) : Bool := if t = 0 then b0 else if t = 1 then b1 else if t = 2 then b2 else b3
theorem thK_fin : ∀ b0 b1 b2 b3 : Bool, thK (b4 b0 b1 b2 b3) 4 = nI (thK (b4 b0 b1 b2 b3) 4).toNatClampNeg ∧ (thK (b4 b0 b1 b2 b3) 4).toNatClampNeg < 16 := by decide +kernel
def hN (f : Nat → Int32) (q : Int32) : Nat := (thM f q 4).toNatClampNeg
theorem hN_e (f : Nat → Int32) (q : Int32) : thM f q 4 = nI (hN f q) ∧ hN f q < 16 := by
  have e : thM f q 4 = thK (b4 (decide (f 0 < q)) (decide (f 1 < q)) (decide (f 2 < q)) (decide (f 3 < q))) 4 := by
    rw [thK_e]
    refine thK_congr (fun j hj => ?_)
    have : j = 0 ∨ j = 1 ∨ j = 2 ∨ j = 3 := by omega
    rcases this with rfl | rfl | rfl | rfl <;> rfl
  unfold hN
  rw [e]
  exact thK_fin _ _ _ _
/-- the sets that are heard, in the passes before n -/
def hS (V : Nat → Int32) (c : Nat) (q : Int32) : Nat → Nat
  | 0 => 0
  | n + 1 => if spB V c n = true then hS V c q n ||| 2 ^ hN (cqF V c n) q else hS V c q n
theorem hS_lt {V : Nat → Int32} {c : Nat} {q : Int32} : ∀ n, hS V c q n < 2 ^ 16
  | 0 => show (0 : Nat) < 2 ^ 16 from by decide
  | n + 1 => by
    have e : hS V c q (n + 1) = if spB V c n = true then hS V c q n ||| 2 ^ hN (cqF V c n) q else hS V c q n := rfl
    rw [e]
    by_cases w : spB V c n = true
    · rw [if_pos w]
      exact Nat.or_lt_two_pow (hS_lt n) (Nat.pow_lt_pow_right (by decide) (hN_e _ _).2)
    · rw [if_neg w]; exact hS_lt n
def hH (V : Nat → Int32) (c : Nat) (q : Int32) (n : Nat) : Nat → Bool := fun h => (hS V c q n).testBit h
theorem hH_no {V : Nat → Int32} {c n : Nat} {q : Int32} (h : ¬ spB V c n = true) : hH V c q (n + 1) = hH V c q n := by
  have e : hS V c q (n + 1) = if spB V c n = true then hS V c q n ||| 2 ^ hN (cqF V c n) q else hS V c q n := rfl
  unfold hH
  rw [e, if_neg h]
theorem hH_yes {V : Nat → Int32} {c n : Nat} {q : Int32} (h : spB V c n = true) (x : Nat) : hH V c q (n + 1) x = (hH V c q n x || decide (hN (cqF V c n) q = x)) := by
  have e : hS V c q (n + 1) = if spB V c n = true then hS V c q n ||| 2 ^ hN (cqF V c n) q else hS V c q n := rfl
  unfold hH
  rw [e, if_pos h, Nat.testBit_or, Nat.testBit_two_pow]
def OfI (V : Nat → Int32) (c : Nat) (q : Int32) (N : Nat → Nat) (nc : Nat) (M : xM) (n : Nat) : Prop := ∃ oc O, OfS M oc O ∧ oc ≤ n ∧ (∀ j, j < oc → ∃ h, h < 16 ∧ hH V c q n h = true ∧ O j = svM N nc h) ∧ (∀ h, h < 16 → hH V c q n h = true → svM N nc h ≠ 0 → ∃ j, j < oc ∧ O j = svM N nc h)
def f44 (M M1 : xM) : Prop := ∀ k, k < 144 ∨ 147 < k → M1 k = M k
theorem f44_t {M M1 M2 : xM} (h : f44 M M1) (h2 : f44 M1 M2) : f44 M M2 := fun k hk => (h2 k hk).trans (h k hk)
theorem f44_id {M : xM} : f44 M M := fun _ _ => rfl
theorem Vw_f44 {V : Nat → Int32} {M M1 : xM} (h : Vw V M) (f : f44 M M1) : Vw V M1 := ⟨trivial, Enc_of h.2.1 (Lk_same (fun k _ _ => f k (by omega))), Col_same (fun k _ _ => f k (by omega)) h.2.2.1, trivial⟩
theorem of_no {V : Nat → Int32} {c : Nat} {q : Int32} {N : Nat → Nat} {nc : Nat} {M : xM} {n : Nat} (h : ¬ spB V c n = true) (hi : OfI V c q N nc M n) : OfI V c q N nc M (n + 1) := by
  obtain ⟨oc, O, a1, a2, a3, a4⟩ := hi
  refine ⟨oc, O, a1, by omega, ?_, ?_⟩
  · rw [hH_no h]; exact a3
  · rw [hH_no h]; exact a4
theorem of_nos {V : Nat → Int32} {c : Nat} {q : Int32} {N : Nat → Nat} {nc : Nat} {M : xM} {n : Nat} (hi : OfI V c q N nc M n) : ∀ d, (∀ j, j < d → ¬ spB V c (n + j) = true) → OfI V c q N nc M (n + d)
  | 0, _ => hi
  | d + 1, h => of_no (h d (by omega)) (of_nos hi d (fun j hj => h j (by omega)))
theorem of_add {V : Nat → Int32} {c : Nat} {q : Int32} {N : Nat → Nat} {nc : Nat} {M : xM} {n : Nat} (h : spB V c n = true) (hn24 : n < 24) (hnc : nc ≤ 6) (hn : NdS M nc N) (hN16 : ∀ i, i < nc → N i < 16) (hi : OfI V c q N nc M n) : ∃ M1, f_X0_addOffer M (nI (hN (cqF V c n) q)) = some M1 ∧ f44 M M1 ∧ NdS M1 nc N ∧ OfI V c q N nc M1 (n + 1) := by
  obtain ⟨oc, O, a1, a2, a3, a4⟩ := hi
  obtain ⟨_, h16⟩ := hN_e (cqF V c n) q
  have t2 : 2 ^ nc ≤ 64 := (tp_fin ⟨nc, by omega⟩).2.1
  have hO : ∀ i, i < oc → O i < 64 := fun i hi => by
    obtain ⟨x, _, _, e⟩ := a3 i hi
    rw [e]
    exact Nat.lt_of_lt_of_le (mk_lt nc) t2
  have e := ao8 hn a1 hnc hN16 (by omega) hO h16
  have up : ∀ x, hH V c q n x = true → hH V c q (n + 1) x = true := fun x hx => by rw [hH_yes h, hx]; rfl
  have me : hH V c q (n + 1) (hN (cqF V c n) q) = true := by rw [hH_yes h, decide_eq_true rfl, Bool.or_true]
  have back : ∀ x, hH V c q (n + 1) x = true → hH V c q n x = true ∨ x = hN (cqF V c n) q := fun x hx => by
    rw [hH_yes h, Bool.or_eq_true] at hx
    rcases hx with w | w
    · exact Or.inl w
    · exact Or.inr (of_decide_eq_true w).symm
  by_cases q1 : aN (fun i => decide (O i = svM N nc (hN (cqF V c n) q))) oc = true
  · rw [if_pos q1] at e
    obtain ⟨j, j1, j2⟩ := (aN_ex oc).mp q1
    refine ⟨M, e, f44_id, hn, oc, O, a1, by omega, fun i hi => ?_, fun x x1 x2 x3 => ?_⟩
    · obtain ⟨x, y1, y2, y3⟩ := a3 i hi
      exact ⟨x, y1, up x y2, y3⟩
    · rcases back x x2 with w | w
      · exact a4 x x1 w x3
      · exact ⟨j, j1, by rw [w]; exact of_decide_eq_true j2⟩
  · rw [if_neg q1] at e
    by_cases q2 : svM N nc (hN (cqF V c n) q) = 0
    · rw [if_pos q2] at e
      refine ⟨M, e, f44_id, hn, oc, O, a1, by omega, fun i hi => ?_, fun x x1 x2 x3 => ?_⟩
      · obtain ⟨x, y1, y2, y3⟩ := a3 i hi
        exact ⟨x, y1, up x y2, y3⟩
      · rcases back x x2 with w | w
        · exact a4 x x1 w x3
        · rw [w] at x3; exact absurd q2 x3
    · rw [if_neg q2] at e
      refine ⟨_, e, fun k hk => by rw [xw_ne (by omega), xw_ne (by omega)], ⟨by rw [xw_o (by omega), xw_ne (by decide)]; exact hn.1, fun i hi => by rw [xw_ne (by decide), xw_ne (by decide)]; exact hn.2 i hi⟩, oc + 1, apN O oc (svM N nc (hN (cqF V c n) q)), ⟨xw_same, fun i hi => ?_⟩, by omega, fun i hi => ?_, fun x x1 x2 x3 => ?_⟩
      · rw [xw_ne (by decide)]
        by_cases z : i = oc
        · rw [z, xw_same, apN_eq]
        · rw [xw_o (by omega), apN_ne z]; exact a1.2 i (by omega)
      · by_cases z : i = oc
        · exact ⟨hN (cqF V c n) q, h16, me, by rw [z, apN_eq]⟩
        · obtain ⟨x, y1, y2, y3⟩ := a3 i (by omega)
          exact ⟨x, y1, up x y2, by rw [apN_ne z]; exact y3⟩
      · rcases back x x2 with w | w
        · obtain ⟨j, j1, j2⟩ := a4 x x1 w x3
          exact ⟨j, by omega, by rw [apN_ne (by omega)]; exact j2⟩
        · exact ⟨oc, by omega, by rw [apN_eq, w]⟩
theorem th_n {V : Nat → Int32} {M : xM} (hV : Vw V M) {c m k s : Nat} (hc : c < nN V 1) (hm : m < nN V 2) (hk : k < 3) (hs : s < 2) (h : csV V m k = true) (q : Int32) {sI : Int32} (hI : sI = nI s) : f_X8_tracksHeard M (nI c) (nI m) (spV V m k) sI q = some (nI (hN (cqF V c (6 * m + 2 * k + s)) q)) := by
  subst hI
  have e1 : (6 * m + 2 * k + s) / 6 = m := by omega
  have e2 : (6 * m + 2 * k + s) / 2 % 3 = k := by omega
  have e3 : (6 * m + 2 * k + s) % 2 = s := by omega
  have es : spS V (6 * m + 2 * k + s) = spV V m k := by unfold spS; rw [e1, e2]
  have := th8 (M := M) (c := c) (m := m) (s := s) (sp := spV V m k) (f := cqF V c (6 * m + 2 * k + s)) (fun t ht => by
    have := cq8 hV hc (n := 6 * m + 2 * k + s) (by rw [e1]; exact hm) (by rw [e1, e2]; exact h) ht
    rw [es, e1, e3] at this
    exact this) q
  rw [this, (hN_e _ _).1]
theorem sp_n {V : Nat → Int32} {c m k s : Nat} (hm : m < nN V 2) (hk : k < 3) (hs : s < 2) (he : V (24 + 5 * c) = V (64 + 5 * m)) : spB V c (6 * m + 2 * k + s) = csV V m k := by
  have e1 : (6 * m + 2 * k + s) / 6 = m := by omega
  have e2 : (6 * m + 2 * k + s) / 2 % 3 = k := by omega
  unfold spB
  rw [e1, e2, decide_eq_true ⟨hm, he.symm⟩, Bool.true_and]
theorem op_3 {V : Nat → Int32} {c m : Nat} {q : Int32} {N : Nat → Nat} {nc : Nat} (hc : c < nN V 1) (hm : m < nN V 2) (hm4 : m < 4) (he : V (24 + 5 * c) = V (64 + 5 * m)) (hnc : nc ≤ 6) (hN16 : ∀ i, i < nc → N i < 16) : ∀ (d k fu : Nat) (M : xM), k + d = 3 → d < fu → Vw V M → NdS M nc N → OfI V c q N nc M (6 * m + 2 * k) → ∃ M1, f_X8_offerPasses_3 fu M (nI c) (nI m) q (nI k) = some M1 ∧ f44 M M1 ∧ NdS M1 nc N ∧ OfI V c q N nc M1 (6 * (m + 1)) := by
  intro d
  induction d with
  | zero =>
    intro k fu M e1 e2 hV hn hi
    obtain ⟨g, rfl⟩ : ∃ g, fu = g + 1 := ⟨fu - 1, by omega⟩
    have e : 6 * m + 2 * k = 6 * (m + 1) := by omega
    rw [e] at hi
    exact ⟨M, by rw [f_X8_offerPasses_3, if_pos (by rw [li_3, le_n (by omega) (by omega)]; omega)], f44_id, hn, hi⟩
  | succ d ih =>
    intro k fu M e1 e2 hV hn hi
    obtain ⟨g, rfl⟩ : ∃ g, fu = g + 1 := ⟨fu - 1, by omega⟩
    have k3 : k < 3 := by omega
    obtain ⟨s1, s2⟩ := so8 hV hm k3
    have z0 : spB V c (6 * m + 2 * k) = csV V m k := sp_n (s := 0) hm k3 (by decide) he
    have z1 : spB V c (6 * m + 2 * k + 1) = csV V m k := sp_n (s := 1) hm k3 (by decide) he
    rw [f_X8_offerPasses_3, if_neg (by rw [li_3, le_n (by omega) (by omega)]; omega), s1, xb_n, s2, xb_n, xl_n, cp8 hV hm k3, xb_n, ifb0]
    unfold f_X8_offerPasses_72
    by_cases w : csV V m k = true
    · obtain ⟨M1, a1, a2, a3, a4⟩ := of_add (by rw [z0]; exact w) (by omega) hnc hn hN16 hi
      obtain ⟨M2, b1, b2, b3, b4⟩ := of_add (n := 6 * m + 2 * k + 1) (by rw [z1]; exact w) (by omega) hnc a3 hN16 a4
      obtain ⟨M3, p1, p2, p3, p4⟩ := ih (k + 1) g M2 (by omega) (by omega) (Vw_f44 (Vw_f44 hV a2) b2) b3 b4
      refine ⟨M3, ?_, f44_t (f44_t a2 b2) p2, p3, p4⟩
      have h0 : f_X8_tracksHeard M (nI c) (nI m) (spV V m k) 0 q = some (nI (hN (cqF V c (6 * m + 2 * k)) q)) := th_n hV hc hm k3 (s := 0) (by decide) w q rfl
      have h1 : f_X8_tracksHeard M1 (nI c) (nI m) (spV V m k) 1 q = some (nI (hN (cqF V c (6 * m + 2 * k + 1)) q)) := th_n (Vw_f44 hV a2) hc hm k3 (s := 1) (by decide) w q rfl
      rw [if_pos w, h0, xb_n, a1, xb_n, h1, xb_n, b1, xb_n, xl_n, ir_1]
      exact p1
    · have i1 := of_no (by rw [z0]; exact w) hi
      have i2 := of_no (n := 6 * m + 2 * k + 1) (by rw [z1]; exact w) i1
      obtain ⟨M3, p1, p2, p3, p4⟩ := ih (k + 1) g M (by omega) (by omega) hV hn i2
      refine ⟨M3, ?_, p2, p3, p4⟩
      rw [if_neg w, xl_n, ir_1]
      exact p1
theorem fp_95 {V : Nat → Int32} {c : Nat} {q : Int32} {N : Nat → Nat} {nc : Nat} (hc : c < nN V 1) (c2 : nN V 2 ≤ 4) (hnc : nc ≤ 6) (hN16 : ∀ i, i < nc → N i < 16) : ∀ (d m fu : Nat) (M : xM), m + d = nN V 2 → d < fu → Vw V M → NdS M nc N → OfI V c q N nc M (6 * m) → ∃ v M1, f_X8_fewestPasses_95 fu M (nI c) q (nI m) = some (v, M1) ∧ f44 M M1 ∧ Fw (hH V c q (6 * nN V 2)) N nc (2 ^ nc - 1) v := by
  intro d
  induction d with
  | zero =>
    intro m fu M e1 e2 hV hn hi
    obtain ⟨g, rfl⟩ : ∃ g, fu = g + 1 := ⟨fu - 1, by omega⟩
    have e : m = nN V 2 := by omega
    subst e
    obtain ⟨oc, O, a1, a2, a3, a4⟩ := hi
    obtain ⟨v, M1, b1, b2, b3⟩ := fs8 hn a1 hnc (by omega) a3 a4
    refine ⟨v, M1, ?_, fun k hk => b2 k (by omega), b3⟩
    rw [f_X8_fewestPasses_95, v_rows_mac hV, if_pos (by rw [le_n (by omega) (by omega)]; exact Nat.le_refl _), b1, xb2_n]
  | succ d ih =>
    intro m fu M e1 e2 hV hn hi
    obtain ⟨g, rfl⟩ : ∃ g, fu = g + 1 := ⟨fu - 1, by omega⟩
    have hm : m < nN V 2 := by omega
    rw [f_X8_fewestPasses_95, v_rows_mac hV, if_neg (by rw [le_n (by omega) (by omega)]; omega), sk8 hV hc hm, xb_n, ifb0]
    unfold f_X8_fewestPasses_125
    by_cases w : V (24 + 5 * c) = V (64 + 5 * m)
    · obtain ⟨M1, a1, a2, a3, a4⟩ := op_3 hc hm (by omega) w hnc hN16 3 0 xFU M (by omega) (by unfold xFU; omega) hV hn hi
      obtain ⟨v, M2, b1, b2, b3⟩ := ih (m + 1) g M1 (by omega) (by omega) (Vw_f44 hV a2) a3 a4
      refine ⟨v, M2, ?_, f44_t a2 b2, b3⟩
      have e : f_X8_offerPasses M (nI c) (nI m) q = some M1 := by
        unfold f_X8_offerPasses
        rw [xl_n]; exact a1
      rw [if_pos w, e, xb_n, xl_n, ir_1]
      exact b1
    · have i1 := of_nos hi 6 (fun j hj z => w (by
        unfold spB at z
        rw [Bool.and_eq_true] at z
        have := (of_decide_eq_true z.1).2
        rw [show (6 * m + j) / 6 = m by omega] at this
        exact this.symm))
      obtain ⟨v, M2, b1, b2, b3⟩ := ih (m + 1) g M (by omega) (by omega) hV hn (by rw [show 6 * (m + 1) = 6 * m + 6 by omega]; exact i1)
      refine ⟨v, M2, ?_, b2, b3⟩
      rw [if_neg w, xl_n, ir_1]
      exact b1
/-! the needs -/
def alw (l m : Nat) : Bool := match f_X9_sideOfAll (nI l) (nI m) with
  | some v => decide (¬ v < 0)
  | none => false
theorem alw_6 : ∀ l : Fin 4, cN (alw l.val) 16 ≤ 6 := by decide +kernel
def NdI (V : Nat → Int32) (c l : Nat) (M : xM) (r nc : Nat) (N : Nat → Nat) : Prop := NdS M nc N ∧ M 144 4 = 0 ∧ nc ≤ 6 ∧ (∀ i, i < nc → N i < 16 ∧ ∃ r', r' < r ∧ V (84 + 5 * r') = nI c ∧ nN V (84 + 5 * r' + 1) = N i) ∧ (∀ r', r' < r → V (84 + 5 * r') = nI c → ∃ i, i < nc ∧ N i = nN V (84 + 5 * r' + 1)) ∧ ∃ P : Nat → Bool, nc = cN P 16 ∧ (∀ m, P m = true ↔ ∃ i, i < nc ∧ N i = m) ∧ ∀ m, P m = true → alw l m = true
theorem alw_r {V : Nat → Int32} {M : xM} (hV : Vw V M) {r c l : Nat} (hr : r < nN V 3) (ec : V (84 + 5 * r) = nI c) (hc : c < 1000) (el : V (24 + 5 * c + 2) = nI l) : alw l (nN V (84 + 5 * r + 1)) = true := by
  have d := hV.2.1.2.1.2.2.2.1 r hr
  obtain ⟨t1, t2, t3⟩ := trk (v_ok hV) hr
  have e : lyR V r = nI l := by
    unfold lyR
    rw [nN_of ec (by omega), el]
  rw [e, t1] at d
  unfold alw
  rw [d.1]
  exact decide_eq_true d.2
theorem fp_38 {V : Nat → Int32} {c l : Nat} {q : Int32} (hc : c < nN V 1) (c1 : nN V 1 ≤ 8) (c2 : nN V 2 ≤ 4) (c3 : nN V 3 ≤ 16) (hl : l ≤ 3) (el : V (24 + 5 * c + 2) = nI l) : ∀ (d r fu : Nat) (M : xM) (nc : Nat) (N : Nat → Nat), r + d = nN V 3 → d < fu → Vw V M → NdI V c l M r nc N → ∃ v M1 nc N, f_X8_fewestPasses_38 fu M (nI c) q (nI r) = some (v, M1) ∧ f44 M M1 ∧ (∀ i, i < nc → ∃ r', r' < nN V 3 ∧ V (84 + 5 * r') = nI c ∧ nN V (84 + 5 * r' + 1) = N i) ∧ (∀ r', r' < nN V 3 → V (84 + 5 * r') = nI c → ∃ i, i < nc ∧ N i = nN V (84 + 5 * r' + 1)) ∧ Fw (hH V c q (6 * nN V 2)) N nc (2 ^ nc - 1) v := by
  intro d
  induction d with
  | zero =>
    intro r fu M nc N e1 e2 hV hi
    obtain ⟨g, rfl⟩ : ∃ g, fu = g + 1 := ⟨fu - 1, by omega⟩
    have e : r = nN V 3 := by omega
    subst e
    obtain ⟨a1, a2, a3, a4, a5, a6⟩ := hi
    have o0 : OfI V c q N nc M (6 * 0) := by
      refine ⟨0, fun _ => 0, ⟨a2, fun i hi => by omega⟩, by omega, fun j hj => by omega, fun h _ w => ?_⟩
      have : hH V c q 0 h = false := Nat.zero_testBit h
      rw [show 6 * 0 = 0 from rfl, this] at w
      exact absurd w Bool.false_ne_true
    obtain ⟨v, M1, b1, b2, b3⟩ := fp_95 hc c2 a3 (fun i hi => (a4 i hi).1) (nN V 2) 0 xFU M (by omega) (by unfold xFU; omega) hV a1 o0
    refine ⟨v, M1, nc, N, ?_, b2, fun i hi => (a4 i hi).2, a5, b3⟩
    rw [f_X8_fewestPasses_38, v_rows_rec hV, if_pos (by rw [le_n (by omega) (by omega)]; exact Nat.le_refl _), xl_n]
    exact b1
  | succ d ih =>
    intro r fu M nc N e1 e2 hV hi
    obtain ⟨g, rfl⟩ : ∃ g, fu = g + 1 := ⟨fu - 1, by omega⟩
    have hr : r < nN V 3 := by omega
    have hi' := hi
    obtain ⟨a1, a2, a3, a4, a5, P, a6, a7, a8⟩ := hi
    rw [f_X8_fewestPasses_38, v_rows_rec hV, if_neg (by rw [le_n (by omega) (by omega)]; omega), g_rec_0 hV hr, xb_n]
    unfold f_X8_fewestPasses_87
    by_cases w : V (84 + 5 * r) = nI c
    · obtain ⟨t1, t2, t3⟩ := trk (v_ok hV) hr
      have al := alw_r hV hr w (by omega) el
      have pf : aN (fun i => decide (N i = nN V (84 + 5 * r + 1))) nc = false → P (nN V (84 + 5 * r + 1)) = false := fun z => by
        cases y : P (nN V (84 + 5 * r + 1)) with
        | false => rfl
        | true =>
          obtain ⟨i, i1, i2⟩ := (a7 _).mp y
          rw [(aN_ex nc).mpr ⟨i, i1, decide_eq_true i2⟩] at z
          exact absurd z.symm Bool.false_ne_true
      have ca : aN (fun i => decide (N i = nN V (84 + 5 * r + 1))) nc = false → cN (fun x => P x || decide (x = nN V (84 + 5 * r + 1))) 16 = nc + 1 ∧ nc < 6 := fun z => by
        have e := cN_add (pf z) (n := 16)
        rw [if_pos t2, ← a6] at e
        have m1 : cN (fun x => P x || decide (x = nN V (84 + 5 * r + 1))) 16 ≤ cN (alw l) 16 := cN_mono (fun j _ hj => by
          rw [Bool.or_eq_true] at hj
          rcases hj with y | y
          · exact a8 j y
          · rw [of_decide_eq_true y]; exact al)
        have m2 : cN (alw l) 16 ≤ 6 := alw_6 ⟨l, by omega⟩
        omega
      have e := an8 a1 a3 (fun i hi => (a4 i hi).1) t2 (fun z => (ca z).2)
      rw [if_pos w, g_rec_1 hV hr, xb_n, t1]
      by_cases z : aN (fun i => decide (N i = nN V (84 + 5 * r + 1))) nc = true
      · rw [if_pos z] at e
        obtain ⟨i0, i1, i2⟩ := (aN_ex nc).mp z
        obtain ⟨v, M1, nc', N', b1, b2, b3⟩ := ih (r + 1) g M nc N (by omega) (by omega) hV ⟨a1, a2, a3, fun i hi => ⟨(a4 i hi).1, by obtain ⟨r', x1, x2⟩ := (a4 i hi).2; exact ⟨r', by omega, x2⟩⟩, fun r' hr' x => by
          by_cases y : r' = r
          · exact ⟨i0, i1, by rw [y]; exact of_decide_eq_true i2⟩
          · exact a5 r' (by omega) x, P, a6, a7, a8⟩
        refine ⟨v, M1, nc', N', ?_, b2, b3⟩
        rw [e, xb_n, xl_n, ir_1]
        exact b1
      · have zf := Bool.eq_false_iff.mpr z
        obtain ⟨k1, k2⟩ := ca zf
        rw [if_neg z] at e
        have fr1 : f44 M (xw (xw M 145 nc (nI (nN V (84 + 5 * r + 1)))) 144 3 (nI (nc + 1))) := fun k hk => by rw [xw_ne (by omega), xw_ne (by omega)]
        obtain ⟨v, M1, nc', N', b1, b2, b3⟩ := ih (r + 1) g (xw (xw M 145 nc (nI (nN V (84 + 5 * r + 1)))) 144 3 (nI (nc + 1))) (nc + 1) (apN N nc (nN V (84 + 5 * r + 1))) (by omega) (by omega) (Vw_f44 hV fr1) ⟨⟨xw_same, fun i hi => by
            rw [xw_ne (by decide)]
            by_cases y : i = nc
            · rw [y, xw_same, apN_eq]
            · rw [xw_o (by omega), apN_ne y]; exact a1.2 i (by omega)⟩, by rw [xw_o (by omega), xw_ne (by decide)]; exact a2, by omega, fun i hi => by
            by_cases y : i = nc
            · rw [y, apN_eq]; exact ⟨t2, r, by omega, w, rfl⟩
            · rw [apN_ne y]
              obtain ⟨r', x1, x2⟩ := (a4 i (by omega)).2
              exact ⟨(a4 i (by omega)).1, r', by omega, x2⟩, fun r' hr' x => by
            by_cases y : r' = r
            · exact ⟨nc, by omega, by rw [apN_eq, y]⟩
            · obtain ⟨i, i1, i2⟩ := a5 r' (by omega) x
              exact ⟨i, by omega, by rw [apN_ne (by omega)]; exact i2⟩, fun x => P x || decide (x = nN V (84 + 5 * r + 1)), k1.symm, fun m => by
            constructor
            · intro y0
              have y : (P m || decide (m = nN V (84 + 5 * r + 1))) = true := y0
              rw [Bool.or_eq_true] at y
              rcases y with y | y
              · obtain ⟨i, i1, i2⟩ := (a7 m).mp y
                exact ⟨i, by omega, by rw [apN_ne (by omega)]; exact i2⟩
              · exact ⟨nc, by omega, by rw [apN_eq]; exact (of_decide_eq_true y).symm⟩
            · rintro ⟨i, i1, i2⟩
              show (P m || decide (m = nN V (84 + 5 * r + 1))) = true
              by_cases y : i = nc
              · rw [y, apN_eq] at i2
                rw [decide_eq_true i2.symm, Bool.or_true]
              · rw [apN_ne y] at i2
                rw [(a7 m).mpr ⟨i, by omega, i2⟩, Bool.true_or], fun m y0 => by
            have y : (P m || decide (m = nN V (84 + 5 * r + 1))) = true := y0
            rw [Bool.or_eq_true] at y
            rcases y with y | y
            · exact a8 m y
            · rw [of_decide_eq_true y]; exact al⟩
        refine ⟨v, M1, nc', N', ?_, f44_t fr1 b2, b3⟩
        rw [e, xb_n, xl_n, ir_1]
        exact b1
    · obtain ⟨v, M1, nc', N', b1, b2, b3⟩ := ih (r + 1) g M nc N (by omega) (by omega) hV ⟨a1, a2, a3, fun i hi => ⟨(a4 i hi).1, by obtain ⟨r', x1, x2⟩ := (a4 i hi).2; exact ⟨r', by omega, x2⟩⟩, fun r' hr' x => by
          by_cases y : r' = r
          · rw [y] at x; exact absurd x w
          · exact a5 r' (by omega) x, P, a6, a7, a8⟩
      refine ⟨v, M1, nc', N', ?_, b2, b3⟩
      rw [if_neg w, xl_n, ir_1]
      exact b1
