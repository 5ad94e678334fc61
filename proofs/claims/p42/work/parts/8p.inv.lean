/-! p42: what is always true of the state -/
def sm (f : Nat → Int32) : Nat → Int32
  | 0 => 0
  | n + 1 => sm f n + f n
theorem sm_c {f g : Nat → Int32} : ∀ {n : Nat}, (∀ k, k < n → f k = g k) → sm f n = sm g n
  | 0, _ => rfl
  | n + 1, h => by
    unfold sm
    rw [sm_c (fun k hk => h k (by omega)), h n (by omega)]
theorem sm_up {f g : Nat → Int32} {j : Nat} {x : Int32} (hj : g j = f j + x) : ∀ {n : Nat}, (∀ k, k < n → k ≠ j → g k = f k) → j < n → sm g n = sm f n + x
  | 0, _, h => by omega
  | n + 1, h, hn => by
    unfold sm
    by_cases e : j = n
    · subst e
      rw [sm_c (fun k hk => h k (by omega) (by omega)), hj, Int32.add_assoc]
    · rw [sm_up hj (fun k hk hk2 => h k (by omega) hk2) (by omega), h n (by omega) (fun q => e q.symm), Int32.add_assoc, Int32.add_comm x, ← Int32.add_assoc]
def QI (V : Rw) (r : Nat) : Prop :=
  exP V (nN V (756 + 10 * r + 2)) (V (756 + 10 * r + 1)) (V (756 + 10 * r + 3)) (V (756 + 10 * r + 4)) (V (756 + 10 * r + 5)) ∧
  ((V (756 + 10 * r) = 0 ∧ V 0 ≤ V (756 + 10 * r + 7) ∧ V (756 + 10 * r + 8) = -6 ∧ V (756 + 10 * r + 9) = 0) ∨
   (V (756 + 10 * r) = 1 ∧ ∃ p, p < nN V 4 ∧ V (756 + 10 * r + 8) = nI p ∧ V (756 + 10 * r + 6) ≤ qlV V p (nN V (756 + 10 * r + 2))) ∨
   ((V (756 + 10 * r) = 2 ∨ V (756 + 10 * r) = 3) ∧ V (756 + 10 * r + 8) = -6 ∧ V (756 + 10 * r + 9) = 0))
def IB (V : Rw) : Prop := sm (fun k => V (8 + k)) 8 = sm (fun k => V (16 + k)) 8 ∧ sm (fun k => V (16 + k)) 8 = sm (fun r => V (756 + 10 * r + 9)) (nN V 6)
def PI (V : Rw) (p : Nat) : Prop :=
  (∃ k, k < 3 ∧ V (24 + 5 * nN V (420 + 9 * p)) = nI k ∧ ¬ plc k (V (420 + 9 * p + 2)) < 0) ∧ V (420 + 9 * p + 4) ≤ V 0 ∧ (∃ t, t < 4 ∧ 0 < V (420 + 9 * p + 5 + t)) ∧ (∀ t, t < 4 → trN (nN V (24 + 5 * nN V (420 + 9 * p) + 2)) ≤ t → V (420 + 9 * p + 5 + t) = 0)
def lfV (V : Rw) (m : Nat) : Nat → Int32
  | 0 => 28800
  | p + 1 => lfV V m p - (if V (420 + 9 * p + 1) = nI m ∧ V (420 + 9 * p + 4) = V 0 then tmV V (nN V (420 + 9 * p)) (V (420 + 9 * p + 2)) else 0)
def I42 (V : Rw) : Prop := (∀ r, r < nN V 6 → QI V r) ∧ IB V ∧ (∀ c, c < nN V 1 → rg (V (24 + 5 * c + 4)) 0 99) ∧ (∀ p, p < nN V 4 → PI V p) ∧ (∀ m, m < nN V 2 → rg (V (64 + 5 * m + 4)) 0 28800 ∧ V (64 + 5 * m + 4) = lfV V m (nN V 4))
theorem nNe {V V2 : Rw} {i : Nat} (h : V2 i = V i) : nN V2 i = nN V i := by unfold nN; rw [h]
theorem mn_c {s : Int32} {f g : Nat → Int32} {m : Nat} : ∀ {n : Nat}, (∀ t, t < n → f t = g t) → mnV s f m n = mnV s g m n
  | 0, _ => rfl
  | n + 1, h => by
    unfold mnV
    rw [mn_c (fun k hk => h k (by omega)), h n (by omega)]
theorem e5_of {V V2 : Rw} {b : Nat} (ep : ∀ c, c < 9 → V2 (b + c) = V (b + c)) {t : Nat} (ht : t < 4) : V2 (b + 5 + t) = V (b + 5 + t) := by
  have := ep (5 + t) (by omega)
  rwa [← Nat.add_assoc] at this
theorem ql_fr {V V2 : Rw} {p r : Nat} (ep : ∀ c, c < 9 → V2 (420 + 9 * p + c) = V (420 + 9 * p + c)) (er : ∀ c, c < 4 → V2 (84 + 5 * r + c) = V (84 + 5 * r + c)) : qlV V2 p r = qlV V p r := by
  unfold qlV
  rw [show V2 (420 + 9 * p) = V (420 + 9 * p) from ep 0 (by decide), show V2 (84 + 5 * r) = V (84 + 5 * r) from er 0 (by decide), nNe (er 1 (by decide)), mn_c (fun t ht => e5_of ep ht)]
theorem QI_fr {V V2 : Rw} {r : Nat} (h : QI V r) (e0 : V2 0 = V 0) (n4 : nN V 4 ≤ nN V2 4) (eq : ∀ c, c < 10 → V2 (756 + 10 * r + c) = V (756 + 10 * r + c)) (ex : ∀ c, c < 4 → V2 (84 + 5 * nN V (756 + 10 * r + 2) + c) = V (84 + 5 * nN V (756 + 10 * r + 2) + c)) (ep : ∀ p c, p < nN V 4 → c < 9 → V2 (420 + 9 * p + c) = V (420 + 9 * p + c)) : QI V2 r := by
  unfold QI exP at *
  have q0 : V2 (756 + 10 * r) = V (756 + 10 * r) := eq 0 (by decide)
  have e2 := nNe (eq 2 (by decide))
  rw [e2, q0, eq 1 (by decide), eq 3 (by decide), eq 4 (by decide), eq 5 (by decide), eq 6 (by decide), eq 7 (by decide), eq 8 (by decide), eq 9 (by decide), ex 2 (by decide), ex 3 (by decide), e0]
  obtain ⟨a, b⟩ := h
  refine ⟨a, ?_⟩
  rcases b with b | ⟨b1, p, b2, b3, b4⟩ | b
  · exact Or.inl b
  · exact Or.inr (Or.inl ⟨b1, p, by omega, b3, by rw [ql_fr (fun c hc => ep p c b2 hc) ex]; exact b4⟩)
  · exact Or.inr (Or.inr b)
theorem PI_fr {V V2 : Rw} {p : Nat} (h : PI V p) (e0 : V 0 ≤ V2 0) (ep : ∀ c, c < 9 → V2 (420 + 9 * p + c) = V (420 + 9 * p + c)) (ec : ∀ c, c < 4 → V2 (24 + 5 * nN V (420 + 9 * p) + c) = V (24 + 5 * nN V (420 + 9 * p) + c)) : PI V2 p := by
  unfold PI at *
  have p0 : V2 (420 + 9 * p) = V (420 + 9 * p) := ep 0 (by decide)
  have c0 : V2 (24 + 5 * nN V (420 + 9 * p)) = V (24 + 5 * nN V (420 + 9 * p)) := ec 0 (by decide)
  rw [nNe p0, c0, ep 2 (by decide), ep 4 (by decide), nNe (ec 2 (by decide))]
  obtain ⟨a, b, ⟨t, c1, c2⟩, d⟩ := h
  exact ⟨a, Int32.le_trans b e0, ⟨t, c1, by rw [e5_of ep c1]; exact c2⟩, fun t ht q => by rw [e5_of ep ht]; exact d t ht q⟩
theorem tm_fr {V V2 : Rw} {c : Nat} {sp : Int32} (ec : ∀ i, i < 4 → V2 (24 + 5 * c + i) = V (24 + 5 * c + i)) : tmV V2 c sp = tmV V c sp := by
  unfold tmV
  rw [ec 3 (by decide), ec 1 (by decide)]
theorem lf_fr {V V2 : Rw} {m : Nat} (e0 : V2 0 = V 0) (ec : ∀ c i, c < nN V 1 → i < 4 → V2 (24 + 5 * c + i) = V (24 + 5 * c + i)) : ∀ {n : Nat}, (∀ p c, p < n → c < 9 → V2 (420 + 9 * p + c) = V (420 + 9 * p + c)) → (∀ p, p < n → nN V (420 + 9 * p) < nN V 1) → lfV V2 m n = lfV V m n
  | 0, _, _ => rfl
  | n + 1, ep, hc => by
    have p0 : V2 (420 + 9 * n) = V (420 + 9 * n) := ep n 0 (by omega) (by decide)
    unfold lfV
    rw [lf_fr e0 ec (fun p c hp hc => ep p c (by omega) hc) (fun p hp => hc p (by omega)), ep n 1 (by omega) (by decide), ep n 4 (by omega) (by decide), e0, nNe p0, ep n 2 (by omega) (by decide), tm_fr (fun i hi => ec _ i (hc n (by omega)) hi)]
theorem IB_fr {V V2 : Rw} (h : IB V) (e : ∀ j, 8 ≤ j → j < 24 → V2 j = V j) (n6 : nN V2 6 = nN V 6) (eq : ∀ r, r < nN V 6 → V2 (756 + 10 * r + 9) = V (756 + 10 * r + 9)) : IB V2 := by
  unfold IB at *
  rw [n6, sm_c (f := fun k => V2 (8 + k)) (g := fun k => V (8 + k)) (fun k hk => e _ (by omega) (by omega)), sm_c (f := fun k => V2 (16 + k)) (g := fun k => V (16 + k)) (fun k hk => e _ (by omega) (by omega)), sm_c (f := fun r => V2 (756 + 10 * r + 9)) (g := fun r => V (756 + 10 * r + 9)) (fun k hk => eq k hk)]
  exact h
theorem okQ {V : Rw} (ho : Ok V) {r : Nat} (hr : r < nN V 6) : OkQ V r := ho.2.2.2.2.2.2.2.2.2.1 r hr
theorem okP {V : Rw} (ho : Ok V) {p : Nat} (hp : p < nN V 4) : OkP V p := ho.2.2.2.2.2.2.1 p hp
theorem okF {V : Rw} (ho : Ok V) {r : Nat} (h1 : nN V 6 ≤ r) (h2 : r < 16) : V (756 + 10 * r + 9) = 0 := ho.2.2.2.2.2.2.2.2.2.2 r h1 h2
theorem okD {V : Rw} (ho : Ok V) : rg (V 0) 0 9999 := ho.1.2.2.2.2.2.2.2.2.2.2.2.2
/-- nothing that counts is changed -/
theorem I42_fr {V V2 : Rw} (ho : Ok V) (h : I42 V) (e : ∀ j, (j = 0 ∨ j = 1 ∨ j = 2 ∨ j = 4 ∨ j = 6 ∨ (8 ≤ j ∧ j < 84) ∨ (420 ≤ j ∧ j < 636) ∨ 756 ≤ j) → V2 j = V j) (er : ∀ r c, r < nN V 3 → c < 4 → V2 (84 + 5 * r + c) = V (84 + 5 * r + c)) : I42 V2 := by
  have n1 : nN V2 1 = nN V 1 := nNe (e 1 (by omega))
  have n2 : nN V2 2 = nN V 2 := nNe (e 2 (by omega))
  have n4 : nN V2 4 = nN V 4 := nNe (e 4 (by omega))
  have n6 : nN V2 6 = nN V 6 := nNe (e 6 (by omega))
  have c1 := ok_c1 ho
  have c2 := ok_c2 ho
  have c4 := ok_c4 ho
  have c6 := ok_c6 ho
  obtain ⟨hA, hB, hC, hP, hM⟩ := h
  unfold I42
  rw [n1, n2, n4, n6]
  refine ⟨fun r hr => QI_fr (hA r hr) (e 0 (by omega)) (by omega) (fun c hc => e _ (by omega)) (fun c hc => er _ c (okQ ho hr).2.2.2.1 hc) (fun p c hp hc => e _ (by omega)), IB_fr hB (fun j h1 h2 => e j (by omega)) n6 (fun r hr => e _ (by omega)), fun c hc => by rw [e _ (by omega)]; exact hC c hc, fun p hp => ?_, fun m hm => ?_⟩
  · have k := (okP ho hp).2.1
    exact PI_fr (hP p hp) (by rw [e 0 (by omega)]; exact Int32.le_refl _) (fun c hc => e _ (by omega)) (fun c hc => e _ (by omega))
  · obtain ⟨m1, m2⟩ := hM m hm
    rw [e _ (by omega), lf_fr (e 0 (by omega)) (fun c i hc hi => e _ (by omega)) (fun p c hp hc => e _ (by omega)) (fun p hp => (okP ho hp).2.1)]
    exact ⟨m1, m2⟩
theorem due_le {V : Rw} (ho : Ok V) : V 0 ≤ xmn (V 0 + 30) 9999 := by
  obtain ⟨g1, g2⟩ := okD ho
  have e30 : (V 0 + 30 : Int32).toInt = (V 0).toInt + 30 := by
    rw [Int32.toInt_add, show (30 : Int32).toInt = 30 from rfl, Int.bmod_eq_of_le (by omega) (by omega)]
  have e9 : (9999 : Int32).toInt = 9999 := rfl
  unfold xmn
  by_cases q : (9999 : Int32) < V 0 + 30
  · rw [if_pos q, Int32.le_iff_toInt_le]; omega
  · rw [if_neg q, Int32.le_iff_toInt_le, e30]; omega
theorem I_req {V V2 : Rw} (ho : Ok V) (h : I42 V) {r : Nat} {a1 a3 a4 a5 : Int32} (hr : r < nN V 3) (hp : exP V r a1 a3 a4 a5) (h16 : nN V 6 < 16) (v6 : V2 6 = nI (nN V 6 + 1)) (eo : ∀ j, j ≠ 6 → (j < 756 + 10 * nN V 6 ∨ 756 + 10 * nN V 6 + 9 ≤ j) → V2 j = V j) (w0 : V2 (756 + 10 * nN V 6) = 0) (w1 : V2 (756 + 10 * nN V 6 + 1) = a1) (w2 : V2 (756 + 10 * nN V 6 + 2) = nI r) (w3 : V2 (756 + 10 * nN V 6 + 3) = a3) (w4 : V2 (756 + 10 * nN V 6 + 4) = a4) (w5 : V2 (756 + 10 * nN V 6 + 5) = a5) (w7 : V2 (756 + 10 * nN V 6 + 7) = xmn (V 0 + 30) 9999) (w8 : V2 (756 + 10 * nN V 6 + 8) = -6) : I42 V2 := by
  have n1 : nN V2 1 = nN V 1 := nNe (eo 1 (by omega) (by omega))
  have n2 : nN V2 2 = nN V 2 := nNe (eo 2 (by omega) (by omega))
  have n4 : nN V2 4 = nN V 4 := nNe (eo 4 (by omega) (by omega))
  have n6 : nN V2 6 = nN V 6 + 1 := nN_of v6 (by omega)
  have c1 := ok_c1 ho
  have c2 := ok_c2 ho
  have c3 := ok_c3 ho
  have c4 := ok_c4 ho
  have e0 : V2 0 = V 0 := eo 0 (by omega) (by omega)
  have z9 : V2 (756 + 10 * nN V 6 + 9) = 0 := (eo _ (by omega) (by omega)).trans (okF ho (Nat.le_refl _) h16)
  obtain ⟨hA, hB, hC, hP, hM⟩ := h
  unfold I42
  rw [n1, n2, n4, n6]
  refine ⟨fun q hq => ?_, ?_, fun c hc => by rw [eo _ (by omega) (by omega)]; exact hC c hc, fun p hp => ?_, fun m hm => ?_⟩
  · by_cases hqn : q = nN V 6
    · rw [hqn]
      unfold QI exP
      rw [nN_of w2 (by omega), w0, w1, w3, w4, w5, w7, w8, z9, e0, eo (84 + 5 * r + 3) (by omega) (by omega), eo (84 + 5 * r + 2) (by omega) (by omega)]
      exact ⟨hp, Or.inl ⟨rfl, due_le ho, rfl, rfl⟩⟩
    · have k := (okQ ho (show q < nN V 6 by omega)).2.2.2.1
      exact QI_fr (hA q (by omega)) e0 (by omega) (fun c hc => eo _ (by omega) (by omega)) (fun c hc => eo _ (by omega) (by omega)) (fun p c hp hc => eo _ (by omega) (by omega))
  · unfold IB at *
    rw [n6]
    have s3 : sm (fun r => V2 (756 + 10 * r + 9)) (nN V 6 + 1) = sm (fun r => V (756 + 10 * r + 9)) (nN V 6) := by
      show sm (fun r => V2 (756 + 10 * r + 9)) (nN V 6) + V2 (756 + 10 * nN V 6 + 9) = _
      rw [z9, Int32.add_zero]
      exact sm_c (fun k hk => eo _ (by omega) (by omega))
    rw [s3, sm_c (f := fun k => V2 (8 + k)) (g := fun k => V (8 + k)) (fun k hk => eo _ (by omega) (by omega)), sm_c (f := fun k => V2 (16 + k)) (g := fun k => V (16 + k)) (fun k hk => eo _ (by omega) (by omega))]
    exact hB
  · have k := (okP ho hp).2.1
    exact PI_fr (hP p hp) (by rw [e0]; exact Int32.le_refl _) (fun c hc => eo _ (by omega) (by omega)) (fun c hc => eo _ (by omega) (by omega))
  · obtain ⟨m1, m2⟩ := hM m hm
    rw [eo _ (by omega) (by omega), lf_fr e0 (fun c i hc hi => eo _ (by omega) (by omega)) (fun p c hp hc => eo _ (by omega) (by omega)) (fun p hp => (okP ho hp).2.1)]
    exact ⟨m1, m2⟩
theorem I_wd {V : Rw} (ho : Ok V) (h : I42 V) {r : Nat} (hr : r < nN V 6) (h0 : V (756 + 10 * r) = 0) : I42 (upd V (756 + 10 * r) 3) := by
  have eo : ∀ j, j ≠ 756 + 10 * r → upd V (756 + 10 * r) 3 j = V j := fun j hj => upd_ne hj
  have w0 : upd V (756 + 10 * r) 3 (756 + 10 * r) = 3 := upd_eq
  generalize upd V (756 + 10 * r) 3 = V2 at eo w0
  have n1 : nN V2 1 = nN V 1 := nNe (eo 1 (by omega))
  have n2 : nN V2 2 = nN V 2 := nNe (eo 2 (by omega))
  have n4 : nN V2 4 = nN V 4 := nNe (eo 4 (by omega))
  have n6 : nN V2 6 = nN V 6 := nNe (eo 6 (by omega))
  have c1 := ok_c1 ho
  have c2 := ok_c2 ho
  have c3 := ok_c3 ho
  have c4 := ok_c4 ho
  have c6 := ok_c6 ho
  have e0 : V2 0 = V 0 := eo 0 (by omega)
  obtain ⟨hA, hB, hC, hP, hM⟩ := h
  unfold I42
  rw [n1, n2, n4, n6]
  refine ⟨fun q hq => ?_, IB_fr hB (fun j h1 h2 => eo j (by omega)) n6 (fun r hr => eo _ (by omega)), fun c hc => by rw [eo _ (by omega)]; exact hC c hc, fun p hp => ?_, fun m hm => ?_⟩
  · have k := (okQ ho hq).2.2.2.1
    by_cases hqr : q = r
    · subst hqr
      have old := hA q hq
      unfold QI exP at *
      rw [nNe (eo (756 + 10 * q + 2) (by omega)), w0, eo (756 + 10 * q + 1) (by omega), eo (756 + 10 * q + 3) (by omega), eo (756 + 10 * q + 4) (by omega), eo (756 + 10 * q + 5) (by omega), eo (756 + 10 * q + 8) (by omega), eo (756 + 10 * q + 9) (by omega), eo (84 + 5 * nN V (756 + 10 * q + 2) + 3) (by omega), eo (84 + 5 * nN V (756 + 10 * q + 2) + 2) (by omega)]
      refine ⟨old.1, Or.inr (Or.inr ⟨Or.inr rfl, ?_⟩)⟩
      rcases old.2 with ⟨-, -, a, b⟩ | ⟨a, -⟩ | ⟨-, a, b⟩
      · exact ⟨a, b⟩
      · rw [h0] at a; exact absurd a (by decide)
      · exact ⟨a, b⟩
    · exact QI_fr (hA q hq) e0 (by omega) (fun c hc => eo _ (by omega)) (fun c hc => eo _ (by omega)) (fun p c hp hc => eo _ (by omega))
  · have k := (okP ho hp).2.1
    exact PI_fr (hP p hp) (by rw [e0]; exact Int32.le_refl _) (fun c hc => eo _ (by omega)) (fun c hc => eo _ (by omega))
  · obtain ⟨m1, m2⟩ := hM m hm
    rw [eo _ (by omega), lf_fr e0 (fun c i hc hi => eo _ (by omega)) (fun p c hp hc => eo _ (by omega)) (fun p hp => (okP ho hp).2.1)]
    exact ⟨m1, m2⟩
theorem I_rsn {V : Rw} (ho : Ok V) (h : I42 V) (v : Int32) : I42 (upd V 7 v) := I42_fr ho h (fun j hj => upd_ne (by omega)) (fun r c hr hc => upd_ne (by omega))
