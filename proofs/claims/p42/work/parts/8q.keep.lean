/-! days, passes and answers keep what is always true -/
theorem reqV_at {V : Rw} {r : Nat} : ∀ {i : Nat}, r < i → reqV V i (756 + 10 * r) = if exq V r = true then 2 else V (756 + 10 * r)
  | 0, h => by omega
  | i + 1, h => by
    unfold reqV
    by_cases e : r = i
    · subst e
      by_cases q : exq V r = true
      · rw [if_pos q, if_pos q, upd_eq]
      · rw [if_neg q, if_neg q, reqV_ne (fun q hq => by omega)]
    · by_cases q : exq V i = true
      · rw [if_pos q, upd_ne (by omega)]; exact reqV_at (by omega)
      · rw [if_neg q]; exact reqV_at (by omega)
theorem macV_at {V : Rw} {m : Nat} : ∀ {i : Nat}, m < i → macV V i (64 + 5 * m + 4) = 28800
  | 0, h => by omega
  | i + 1, h => by
    unfold macV
    by_cases e : m = i
    · subst e; rw [upd_eq]
    · rw [upd_ne (by omega)]; exact macV_at (by omega)
theorem lf_no {V : Rw} {m : Nat} : ∀ {n : Nat}, (∀ p, p < n → ¬ V (420 + 9 * p + 4) = V 0) → lfV V m n = 28800
  | 0, _ => rfl
  | n + 1, h => by
    unfold lfV
    rw [lf_no (fun p hp => h p (by omega)), if_neg (fun q => h n (by omega) q.2), Int32.sub_zero]
theorem day_lt {V : Rw} (ho : Ok V) {a : Int32} (p1 : 1 ≤ a ∧ a ≤ 99) : V 0 < V 0 + a := by
  obtain ⟨g1, g2⟩ := okD ho
  have q := rg_of p1
  have z1 : (1 : Int32).toInt = 1 := rfl
  have z2 : (99 : Int32).toInt = 99 := rfl
  have q1 := q.1
  have q2 := q.2
  rw [Int32.lt_iff_toInt_lt, Int32.toInt_add, Int.bmod_eq_of_le (by omega) (by omega)]
  omega
theorem I_day {V : Rw} (ho : Ok V) (h : I42 V) {a : Int32} (p1 : 1 ≤ a ∧ a ≤ 99) : I42 (dayV V a) := by
  have hlt := day_lt ho p1
  have c1 := ok_c1 ho
  have c2 := ok_c2 ho
  have c3 := ok_c3 ho
  have c4 := ok_c4 ho
  have c6 := ok_c6 ho
  have eo : ∀ j, j ≠ 0 → (∀ q, q < nN V 2 → j ≠ 64 + 5 * q + 4) → (∀ q, q < nN V 6 → j ≠ 756 + 10 * q) → dayV V a j = V j := fun j b1 b2 b3 => by
    unfold dayV
    rw [reqV_ne b3, macV_ne b2, upd_ne b1]
  have e0 : dayV V a 0 = V 0 + a := by
    unfold dayV
    rw [reqV_ne (fun q _ => by omega), macV_ne (fun q _ => by omega), upd_eq]
  have eq : ∀ r, r < nN V 6 → dayV V a (756 + 10 * r) = if (V (756 + 10 * r) = 0 ∧ V (756 + 10 * r + 7) < V 0 + a) then 2 else V (756 + 10 * r) := fun r hr => by
    unfold dayV
    rw [reqV_at hr]
    have w : exq (macV (upd V 0 (V 0 + a)) (nN V 2)) r = decide (V (756 + 10 * r) = 0 ∧ V (756 + 10 * r + 7) < V 0 + a) := by
      unfold exq
      rw [macV_ne (fun q _ => by omega), macV_ne (fun q _ => by omega), macV_ne (fun q _ => by omega), upd_ne (by omega), upd_ne (by omega), upd_eq]
    rw [w, macV_ne (fun q _ => by omega), upd_ne (by omega)]
    by_cases q : V (756 + 10 * r) = 0 ∧ V (756 + 10 * r + 7) < V 0 + a
    · rw [if_pos q, if_pos (decide_eq_true q)]
    · rw [if_neg q, if_neg (fun z => q (of_decide_eq_true z))]
  have em : ∀ m, m < nN V 2 → dayV V a (64 + 5 * m + 4) = 28800 := fun m hm => by
    unfold dayV
    rw [reqV_ne (fun q _ => by omega), macV_at hm]
  generalize dayV V a = V2 at eo e0 eq em
  have n1 : nN V2 1 = nN V 1 := nNe (eo 1 (by omega) (fun q _ => by omega) (fun q _ => by omega))
  have n2 : nN V2 2 = nN V 2 := nNe (eo 2 (by omega) (fun q _ => by omega) (fun q _ => by omega))
  have n4 : nN V2 4 = nN V 4 := nNe (eo 4 (by omega) (fun q _ => by omega) (fun q _ => by omega))
  have n6 : nN V2 6 = nN V 6 := nNe (eo 6 (by omega) (fun q _ => by omega) (fun q _ => by omega))
  obtain ⟨hA, hB, hC, hP, hM⟩ := h
  unfold I42
  rw [n1, n2, n4, n6]
  refine ⟨fun r hr => ?_, IB_fr hB (fun j h1 h2 => eo j (by omega) (fun q _ => by omega) (fun q _ => by omega)) n6 (fun r hr => eo _ (by omega) (fun q _ => by omega) (fun q _ => by omega)), fun c hc => by rw [eo _ (by omega) (fun q _ => by omega) (fun q _ => by omega)]; exact hC c hc, fun p hp => ?_, fun m hm => ?_⟩
  · have k := (okQ ho hr).2.2.2.1
    have old := hA r hr
    have er : ∀ c, 1 ≤ c → c < 10 → V2 (756 + 10 * r + c) = V (756 + 10 * r + c) := fun c h1 h2 => eo _ (by omega) (fun q _ => by omega) (fun q _ => by omega)
    have ex : ∀ c, c < 4 → V2 (84 + 5 * nN V (756 + 10 * r + 2) + c) = V (84 + 5 * nN V (756 + 10 * r + 2) + c) := fun c hc => eo _ (by omega) (fun q _ => by omega) (fun q _ => by omega)
    unfold QI exP at *
    rw [nNe (er 2 (by decide) (by decide)), eq r hr, er 1 (by decide) (by decide), er 3 (by decide) (by decide), er 4 (by decide) (by decide), er 5 (by decide) (by decide), er 6 (by decide) (by decide), er 7 (by decide) (by decide), er 8 (by decide) (by decide), er 9 (by decide) (by decide), ex 2 (by decide), ex 3 (by decide), e0]
    refine ⟨old.1, ?_⟩
    rcases old.2 with ⟨a1, a2, a3, a4⟩ | ⟨a1, p, a2, a3, a4⟩ | ⟨a1, a2, a3⟩
    · by_cases q : V (756 + 10 * r + 7) < V 0 + a
      · rw [if_pos ⟨a1, q⟩]
        exact Or.inr (Or.inr ⟨Or.inl rfl, a3, a4⟩)
      · rw [if_neg (fun z => q z.2)]
        exact Or.inl ⟨a1, Int32.not_lt.mp q, a3, a4⟩
    · rw [if_neg (fun z => absurd (a1.symm.trans z.1) (by decide)), n4]
      refine Or.inr (Or.inl ⟨a1, p, a2, a3, ?_⟩)
      rw [ql_fr (fun c hc => eo _ (by omega) (fun q _ => by omega) (fun q _ => by omega)) ex]
      exact a4
    · rw [if_neg (fun z => by rcases a1 with w | w <;> exact absurd (w.symm.trans z.1) (by decide))]
      exact Or.inr (Or.inr ⟨a1, a2, a3⟩)
  · have k := (okP ho hp).2.1
    exact PI_fr (hP p hp) (by rw [e0]; exact Int32.le_of_lt hlt) (fun c hc => eo _ (by omega) (fun q _ => by omega) (fun q _ => by omega)) (fun c hc => eo _ (by omega) (fun q _ => by omega) (fun q _ => by omega))
  · rw [em m hm, lf_no (fun p hp => ?_)]
    · exact ⟨⟨by decide, by decide⟩, rfl⟩
    · rw [eo _ (by omega) (fun q _ => by omega) (fun q _ => by omega), e0]
      intro q
      have w := (hP p hp).2.1
      rw [q] at w
      exact absurd hlt (Int32.not_lt.mpr w)
/-! a pass -/
theorem pv_o {V : Rw} {n c m s : Nat} {sp : Int32} {f : Rw} {j : Nat} (h4 : j ≠ 4) (h7 : j ≠ 7) (hc : j ≠ 24 + 5 * c + 4) (hm : j ≠ 64 + 5 * m + 4) (hj : j < 420 + 9 * n ∨ 420 + 9 * n + 9 ≤ j) : passV V n c m sp s f j = V j := by
  unfold passV
  rw [upd_ne h4, upd_ne h7, upd_ne hm, upd_ne hc, cqV_ne (fun t ht => by omega)]
  unfold paV
  rw [upd_ne (by omega), upd_ne (by omega), upd_ne (by omega), upd_ne (by omega), upd_ne (by omega)]
theorem pv_4 {V : Rw} {n c m s : Nat} {sp : Int32} {f : Rw} : passV V n c m sp s f 4 = nI (n + 1) := by
  unfold passV
  rw [upd_eq]
theorem pv_7 {V : Rw} {n c m s : Nat} {sp : Int32} {f : Rw} : passV V n c m sp s f 7 = 0 := by
  unfold passV
  rw [upd_ne (by decide), upd_eq]
theorem pv_c {V : Rw} {n c m s : Nat} {sp : Int32} {f : Rw} (hc : c < 8) (hm : m < 4) : passV V n c m sp s f (24 + 5 * c + 4) = V (24 + 5 * c + 4) - plV V c sp := by
  unfold passV
  rw [upd_ne (by omega), upd_ne (by omega), upd_ne (by omega), upd_eq]
theorem pv_m {V : Rw} {n c m s : Nat} {sp : Int32} {f : Rw} (hc : c < 8) (hm : m < 4) : passV V n c m sp s f (64 + 5 * m + 4) = V (64 + 5 * m + 4) - tmV V c sp := by
  unfold passV
  rw [upd_ne (by omega), upd_ne (by omega), upd_eq]
theorem pv_f {V : Rw} {n c m s : Nat} {sp : Int32} {f : Rw} (hc : c < 8) (hm : m < 4) {t : Nat} (ht : t < 4) : passV V n c m sp s f (420 + 9 * n + 5 + t) = f t := by
  unfold passV
  rw [upd_ne (by omega), upd_ne (by omega), upd_ne (by omega), upd_ne (by omega), cqV_at ht]
theorem pv_p {V : Rw} {n c m s : Nat} {sp : Int32} {f : Rw} (hc : c < 8) (hm : m < 4) : passV V n c m sp s f (420 + 9 * n) = nI c ∧ passV V n c m sp s f (420 + 9 * n + 1) = nI m ∧ passV V n c m sp s f (420 + 9 * n + 2) = sp ∧ passV V n c m sp s f (420 + 9 * n + 3) = nI s ∧ passV V n c m sp s f (420 + 9 * n + 4) = V 0 := by
  unfold passV
  refine ⟨?_, ?_, ?_, ?_, ?_⟩ <;> (rw [upd_ne (by omega), upd_ne (by omega), upd_ne (by omega), upd_ne (by omega), cqV_ne (fun t ht => by omega)]; unfold paV; simp only [Nat.add_zero]; simp (disch := omega) only [upd_ne, upd_eq])
theorem aN_ex {p : Nat → Bool} : ∀ {n : Nat}, aN p n = true → ∃ k, k < n ∧ p k = true
  | 0, h => by cases h
  | n + 1, h => by
    unfold aN at h
    rcases Bool.or_eq_true_iff.mp h with q | q
    · obtain ⟨k, h1, h2⟩ := aN_ex q
      exact ⟨k, by omega, h2⟩
    · exact ⟨n, by omega, q⟩
theorem tm_pos {V : Rw} (ho : Ok V) {c : Nat} (hc : c < nN V 1) {sp : Int32} (r : rg sp 1 380) : ∃ k, k < 2000000 ∧ tmV V c sp = nI k := by
  have g := ho.2.1 c hc
  obtain ⟨a, a1, a2, ea⟩ := pos_ex (n := 380) g.2.1 (by decide)
  obtain ⟨b, b1, b2, eb⟩ := pos_ex (n := 3600) g.2.2.2 (by decide)
  obtain ⟨d, d1, d2, ed⟩ := pos_ex (n := 380) r (by decide)
  have hba : b * a ≤ 3600 * 380 := Nat.mul_le_mul b2 a2
  refine ⟨(b * a + d - 1) / d, Nat.lt_of_le_of_lt (Nat.div_le_self _ _) (by omega), ?_⟩
  unfold tmV
  rw [ea, eb, ed, pk_mul, nI_add, show b * a + d = (b * a + d - 1) + 1 by omega, nI_pred, pk_div (by omega) (by omega) (by omega)]
  rfl
theorem sub_to {x y : Int32} {a : Int} (hx : rg x 0 a) (ha : a < 100000) (h0 : 0 ≤ y.toInt) (h : y ≤ x) : rg (x - y) 0 a := by
  obtain ⟨x1, x2⟩ := hx
  have := Int32.le_iff_toInt_le.mp h
  unfold rg
  rw [Int32.toInt_sub, Int.bmod_eq_of_le (by omega) (by omega)]
  omega
theorem I_pass {V : Rw} (ho : Ok V) (h : I42 V) {c m l hd s : Nat} {sp : Int32} (hc : c < nN V 1) (hm : m < nN V 2) (el : V (24 + 5 * c + 2) = nI l) (hl : l ≤ 3) (r1 : rg sp 1 380) (kk : ∃ k, k < 3 ∧ V (64 + 5 * m) = nI k ∧ ¬ plc k sp < 0) (hp : rsP V c m l hd sp s 0) : I42 (passV V (nN V 4) c m sp s (cpF V c m l hd sp s)) := by
  have c1 := ok_c1 ho
  have c2 := ok_c2 ho
  have c3 := ok_c3 ho
  have c4 := ok_c4 ho
  have c6 := ok_c6 ho
  obtain ⟨sk, w2, w3, w4, w5⟩ : V (24 + 5 * c) = V (64 + 5 * m) ∧ plV V c sp ≤ V (24 + 5 * c + 4) ∧ tmV V c sp ≤ V (64 + 5 * m + 4) ∧ aN (fun t => decide (0 < cpF V c m l hd sp s t)) 4 = true ∧ nN V 4 < 24 := by
    rcases hp with ⟨a, -⟩ | ⟨w, a | a | a | a | ⟨-, b⟩⟩
    · exact absurd a (by decide)
    · exact absurd a (by decide)
    · exact absurd a (by decide)
    · exact absurd a (by decide)
    · exact absurd a (by decide)
    · exact ⟨w, b⟩
  generalize hf : cpF V c m l hd sp s = f at w4 ⊢
  have fz : ∀ t, trN l ≤ t → f t = 0 := fun t ht => by
    rw [← hf]
    unfold cpF capX
    rw [if_neg (by omega)]
  have eo : ∀ j, j ≠ 4 → j ≠ 7 → j ≠ 24 + 5 * c + 4 → j ≠ 64 + 5 * m + 4 → (j < 420 + 9 * nN V 4 ∨ 420 + 9 * nN V 4 + 9 ≤ j) → passV V (nN V 4) c m sp s f j = V j := fun j a1 a2 a3 a4 a5 => pv_o a1 a2 a3 a4 a5
  have e4 := pv_4 (V := V) (n := nN V 4) (c := c) (m := m) (s := s) (sp := sp) (f := f)
  have ec := pv_c (V := V) (n := nN V 4) (s := s) (sp := sp) (f := f) (show c < 8 by omega) (show m < 4 by omega)
  have em := pv_m (V := V) (n := nN V 4) (s := s) (sp := sp) (f := f) (show c < 8 by omega) (show m < 4 by omega)
  have ef : ∀ t, t < 4 → passV V (nN V 4) c m sp s f (420 + 9 * nN V 4 + 5 + t) = f t := fun t ht => pv_f (by omega) (by omega) ht
  obtain ⟨ep0, ep1, ep2, ep3, ep4⟩ := pv_p (V := V) (n := nN V 4) (s := s) (sp := sp) (f := f) (show c < 8 by omega) (show m < 4 by omega)
  generalize passV V (nN V 4) c m sp s f = V2 at eo e4 ec em ef ep0 ep1 ep2 ep3 ep4 ⊢
  have n1 : nN V2 1 = nN V 1 := nNe (eo 1 (by omega) (by omega) (by omega) (by omega) (by omega))
  have n2 : nN V2 2 = nN V 2 := nNe (eo 2 (by omega) (by omega) (by omega) (by omega) (by omega))
  have n4 : nN V2 4 = nN V 4 + 1 := nN_of e4 (by omega)
  have n6 : nN V2 6 = nN V 6 := nNe (eo 6 (by omega) (by omega) (by omega) (by omega) (by omega))
  have e0 : V2 0 = V 0 := eo 0 (by omega) (by omega) (by omega) (by omega) (by omega)
  have eP : ∀ p c, p < nN V 4 → c < 9 → V2 (420 + 9 * p + c) = V (420 + 9 * p + c) := fun p c hp hc => eo _ (by omega) (by omega) (by omega) (by omega) (by omega)
  have eC : ∀ c i, c < nN V 1 → i < 4 → V2 (24 + 5 * c + i) = V (24 + 5 * c + i) := fun c i hc hi => eo _ (by omega) (by omega) (by omega) (by omega) (by omega)
  obtain ⟨hA, hB, hC, hP, hM⟩ := h
  unfold I42
  rw [n1, n2, n4, n6]
  refine ⟨fun r hr => ?_, IB_fr hB (fun j h1 h2 => eo j (by omega) (by omega) (by omega) (by omega) (by omega)) n6 (fun r hr => eo _ (by omega) (by omega) (by omega) (by omega) (by omega)), fun d hd => ?_, fun p hp => ?_, fun d hd => ?_⟩
  · have k := (okQ ho hr).2.2.2.1
    exact QI_fr (hA r hr) e0 (by omega) (fun c hc => eo _ (by omega) (by omega) (by omega) (by omega) (by omega)) (fun c hc => eo _ (by omega) (by omega) (by omega) (by omega) (by omega)) eP
  · by_cases q : d = c
    · subst q
      rw [ec]
      refine sub_to (hC d hd) (by decide) ?_ w2
      unfold plV
      split <;> decide
    · rw [eo _ (by omega) (by omega) (by omega) (by omega) (by omega)]; exact hC d hd
  · by_cases q : p = nN V 4
    · subst q
      unfold PI
      rw [nN_of ep0 (by omega), ep2, ep4, e0, show V2 (24 + 5 * c) = V (24 + 5 * c) from eC c 0 hc (by decide), nNe (eC c 2 hc (by decide)), nN_of el (by omega)]
      obtain ⟨k, k1, k2, k3⟩ := kk
      obtain ⟨t, t1, t2⟩ := aN_ex w4
      exact ⟨⟨k, k1, sk.trans k2, k3⟩, Int32.le_refl _, ⟨t, t1, by rw [ef t t1]; exact of_decide_eq_true t2⟩, fun t ht q => by rw [ef t ht]; exact fz t q⟩
    · have k := (okP ho (show p < nN V 4 by omega)).2.1
      exact PI_fr (hP p (by omega)) (by rw [e0]; exact Int32.le_refl _) (fun c hc => eP p c (by omega) hc) (fun i hi => eC _ i k hi)
  · obtain ⟨m1, m2⟩ := hM d hd
    have lo : lfV V2 d (nN V 4) = lfV V d (nN V 4) := lf_fr e0 eC eP (fun p hp => (okP ho hp).2.1)
    have st : lfV V2 d (nN V 4 + 1) = lfV V2 d (nN V 4) - (if V2 (420 + 9 * nN V 4 + 1) = nI d ∧ V2 (420 + 9 * nN V 4 + 4) = V2 0 then tmV V2 (nN V2 (420 + 9 * nN V 4)) (V2 (420 + 9 * nN V 4 + 2)) else 0) := rfl
    rw [st, lo, ep1, ep4, e0, nN_of ep0 (by omega), ep2]
    by_cases q : d = m
    · subst q
      rw [if_pos ⟨rfl, rfl⟩, em, tm_fr (fun i hi => eC c i hc hi), m2]
      obtain ⟨k, k1, k2⟩ := tm_pos ho hc r1
      refine ⟨?_, rfl⟩
      rw [← m2]
      refine sub_to m1 (by decide) ?_ w3
      rw [k2, nI_toInt (by omega)]
      omega
    · rw [if_neg (fun z => q ((eq_n (by omega) (by omega)).mp z.1).symm), Int32.sub_zero, eo _ (by omega) (by omega) (by omega) (by omega) (by omega)]
      exact ⟨m1, m2⟩
