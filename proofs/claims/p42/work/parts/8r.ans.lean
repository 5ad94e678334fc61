/-! an answer: the sums stay the same -/
theorem up_sm (A : Rw) (h : Nat) (x : Int32) (hh : h < 8) : sm (fun k => upd A (8 + h) (A (8 + h) + x) (8 + k)) 8 = sm (fun k => A (8 + k)) 8 + x := by
  have e : ∀ k, k < 8 → k ≠ h → upd A (8 + h) (A (8 + h) + x) (8 + k) = A (8 + k) := fun k _ hk => upd_ne (by omega)
  have e2 : upd A (8 + h) (A (8 + h) + x) (8 + h) = A (8 + h) + x := upd_eq
  generalize upd A (8 + h) (A (8 + h) + x) = B at e e2
  exact sm_up (f := fun k => A (8 + k)) (g := fun k => B (8 + k)) (j := h) e2 e hh
theorem acV_s (V : Rw) (p : Int32) (r : Nat) (a b u : Int32) (i : Nat) : acV V p r a b u (i + 1) = upd (acV V p r a b u i) (8 + nN V (164 + 4 * (4 * r + i) + 2)) (acV V p r a b u i (8 + nN V (164 + 4 * (4 * r + i) + 2)) + shS V (4 * r + i) p a b * prI u) := rfl
theorem feV_s (V : Rw) (p : Int32) (r : Nat) (a b u : Int32) (i : Nat) : feV V p r a b u (i + 1) = feV V p r a b u i + shS V (4 * r + i) p a b * prI u := rfl
theorem ac_sm {V : Rw} {p : Int32} {r : Nat} {a b u : Int32} : ∀ {i : Nat}, (∀ k, k < i → nN V (164 + 4 * (4 * r + k) + 2) < 8) → sm (fun k => acV V p r a b u i (8 + k)) 8 = sm (fun k => V (8 + k)) 8 + feV V p r a b u i
  | 0, _ => (Int32.add_zero _).symm
  | i + 1, h => by
    have ih := ac_sm (V := V) (p := p) (r := r) (a := a) (b := b) (u := u) (i := i) (fun k hk => h k (by omega))
    have hh := h i (by omega)
    have st := up_sm (acV V p r a b u i) (nN V (164 + 4 * (4 * r + i) + 2)) (shS V (4 * r + i) p a b * prI u) hh
    rw [← acV_s, ih] at st
    rw [feV_s, ← Int32.add_assoc]
    exact st
theorem I_ans {V : Rw} (ho : Ok V) (h : I42 V) {q m : Nat} (hq : q < nN V 6) (hm : m < nN V 4) (h0 : V (756 + 10 * q) = 0) (hle : V (756 + 10 * q + 6) ≤ qlV V m (nN V (756 + 10 * q + 2))) : I42 (ansV V q m) ∧ ansV V q m 7 = 0 ∧ ansV V q m (756 + 10 * q + 9) = feV V (V (756 + 10 * q + 1)) (nN V (756 + 10 * q + 2)) (V (756 + 10 * q + 3)) (V (756 + 10 * q + 4)) (V (756 + 10 * q + 5)) (nN V (84 + 5 * nN V (756 + 10 * q + 2) + 4)) ∧ (∀ j, j < 7 → ansV V q m j = V j) := by
  have c1 := ok_c1 ho
  have c2 := ok_c2 ho
  have c3 := ok_c3 ho
  have c4 := ok_c4 ho
  have c6 := ok_c6 ho
  have hQ := okQ ho hq
  have hr := hQ.2.2.2.1
  have hs := hQ.2.1
  have hol : ∀ k, k < nN V (84 + 5 * nN V (756 + 10 * q + 2) + 4) → nN V (164 + 4 * (4 * nN V (756 + 10 * q + 2) + k) + 2) < 8 := fun k hk => (ho.2.2.2.2.2.1 _ k hr hk).2.2.2
  unfold ansV
  simp only [Nat.add_zero]
  generalize hfee : feV V (V (756 + 10 * q + 1)) (nN V (756 + 10 * q + 2)) (V (756 + 10 * q + 3)) (V (756 + 10 * q + 4)) (V (756 + 10 * q + 5)) (nN V (84 + 5 * nN V (756 + 10 * q + 2) + 4)) = fee
  have asum := ac_sm (p := V (756 + 10 * q + 1)) (a := V (756 + 10 * q + 3)) (b := V (756 + 10 * q + 4)) (u := V (756 + 10 * q + 5)) hol
  rw [hfee] at asum
  have ane : ∀ j, (j < 8 ∨ 16 ≤ j) → acV V (V (756 + 10 * q + 1)) (nN V (756 + 10 * q + 2)) (V (756 + 10 * q + 3)) (V (756 + 10 * q + 4)) (V (756 + 10 * q + 5)) (nN V (84 + 5 * nN V (756 + 10 * q + 2) + 4)) j = V j := fun j hj => acV_ne hol hj
  generalize acV V (V (756 + 10 * q + 1)) (nN V (756 + 10 * q + 2)) (V (756 + 10 * q + 3)) (V (756 + 10 * q + 4)) (V (756 + 10 * q + 5)) (nN V (84 + 5 * nN V (756 + 10 * q + 2) + 4)) = A at asum ane ⊢
  generalize hsn : nN V (756 + 10 * q + 1) = s at hs ⊢
  have eo : ∀ j, j ≠ 7 → (j < 8 ∨ 24 ≤ j) → j ≠ 756 + 10 * q → j ≠ 756 + 10 * q + 8 → j ≠ 756 + 10 * q + 9 → (upd (upd (upd (upd (upd A (16 + s) (V (16 + s) + fee)) (756 + 10 * q) 1) (756 + 10 * q + 8) (nI m)) (756 + 10 * q + 9) fee) 7 0) j = V j := fun j a1 a2 a3 a4 a5 => by
    rw [upd_ne a1, upd_ne a5, upd_ne a4, upd_ne a3, upd_ne (by omega)]
    exact ane j (by omega)
  have e7 : (upd (upd (upd (upd (upd A (16 + s) (V (16 + s) + fee)) (756 + 10 * q) 1) (756 + 10 * q + 8) (nI m)) (756 + 10 * q + 9) fee) 7 0) 7 = 0 := upd_eq
  have e9 : (upd (upd (upd (upd (upd A (16 + s) (V (16 + s) + fee)) (756 + 10 * q) 1) (756 + 10 * q + 8) (nI m)) (756 + 10 * q + 9) fee) 7 0) (756 + 10 * q + 9) = fee := by rw [upd_ne (by omega), upd_eq]
  have e8 : (upd (upd (upd (upd (upd A (16 + s) (V (16 + s) + fee)) (756 + 10 * q) 1) (756 + 10 * q + 8) (nI m)) (756 + 10 * q + 9) fee) 7 0) (756 + 10 * q + 8) = nI m := by rw [upd_ne (by omega), upd_ne (by omega), upd_eq]
  have es : (upd (upd (upd (upd (upd A (16 + s) (V (16 + s) + fee)) (756 + 10 * q) 1) (756 + 10 * q + 8) (nI m)) (756 + 10 * q + 9) fee) 7 0) (756 + 10 * q) = 1 := by rw [upd_ne (by omega), upd_ne (by omega), upd_ne (by omega), upd_eq]
  have ei : ∀ k, k < 8 → (upd (upd (upd (upd (upd A (16 + s) (V (16 + s) + fee)) (756 + 10 * q) 1) (756 + 10 * q + 8) (nI m)) (756 + 10 * q + 9) fee) 7 0) (8 + k) = A (8 + k) := fun k hk => by rw [upd_ne (by omega), upd_ne (by omega), upd_ne (by omega), upd_ne (by omega), upd_ne (by omega)]
  have ep : ∀ k, k < 8 → k ≠ s → (upd (upd (upd (upd (upd A (16 + s) (V (16 + s) + fee)) (756 + 10 * q) 1) (756 + 10 * q + 8) (nI m)) (756 + 10 * q + 9) fee) 7 0) (16 + k) = V (16 + k) := fun k hk hk2 => by
    rw [upd_ne (by omega), upd_ne (by omega), upd_ne (by omega), upd_ne (by omega), upd_ne (by omega)]
    exact ane _ (by omega)
  have eps : (upd (upd (upd (upd (upd A (16 + s) (V (16 + s) + fee)) (756 + 10 * q) 1) (756 + 10 * q + 8) (nI m)) (756 + 10 * q + 9) fee) 7 0) (16 + s) = V (16 + s) + fee := by rw [upd_ne (by omega), upd_ne (by omega), upd_ne (by omega), upd_ne (by omega), upd_eq]
  generalize upd (upd (upd (upd (upd A (16 + s) (V (16 + s) + fee)) (756 + 10 * q) 1) (756 + 10 * q + 8) (nI m)) (756 + 10 * q + 9) fee) 7 0 = V2 at eo e7 e9 e8 es ei ep eps ⊢
  refine ⟨?_, e7, e9, fun j hj => eo j (by omega) (by omega) (by omega) (by omega) (by omega)⟩
  have n1 : nN V2 1 = nN V 1 := nNe (eo 1 (by omega) (by omega) (by omega) (by omega) (by omega))
  have n2 : nN V2 2 = nN V 2 := nNe (eo 2 (by omega) (by omega) (by omega) (by omega) (by omega))
  have n4 : nN V2 4 = nN V 4 := nNe (eo 4 (by omega) (by omega) (by omega) (by omega) (by omega))
  have n6 : nN V2 6 = nN V 6 := nNe (eo 6 (by omega) (by omega) (by omega) (by omega) (by omega))
  have e0 : V2 0 = V 0 := eo 0 (by omega) (by omega) (by omega) (by omega) (by omega)
  have eP : ∀ p c, p < nN V 4 → c < 9 → V2 (420 + 9 * p + c) = V (420 + 9 * p + c) := fun p c hp hc => eo _ (by omega) (by omega) (by omega) (by omega) (by omega)
  have eC : ∀ c i, c < nN V 1 → i < 4 → V2 (24 + 5 * c + i) = V (24 + 5 * c + i) := fun c i hc hi => eo _ (by omega) (by omega) (by omega) (by omega) (by omega)
  obtain ⟨hA, hB, hC, hP, hM⟩ := h
  have z9 : V (756 + 10 * q + 9) = 0 := by
    rcases (hA q hq).2 with ⟨-, -, -, a⟩ | ⟨a, -⟩ | ⟨a, -⟩
    · exact a
    · exact absurd (a.symm.trans h0) (by decide)
    · rcases a with a | a <;> exact absurd (a.symm.trans h0) (by decide)
  unfold I42
  rw [n1, n2, n4, n6]
  refine ⟨fun r hr2 => ?_, ?_, fun d hd => by rw [eo _ (by omega) (by omega) (by omega) (by omega) (by omega)]; exact hC d hd, fun p hp => ?_, fun d hd => ?_⟩
  · have k := (okQ ho hr2).2.2.2.1
    by_cases hrq : r = q
    · subst hrq
      have old := hA r hr2
      unfold QI exP at *
      rw [nNe (eo (756 + 10 * r + 2) (by omega) (by omega) (by omega) (by omega) (by omega)), es, eo (756 + 10 * r + 1) (by omega) (by omega) (by omega) (by omega) (by omega), eo (756 + 10 * r + 3) (by omega) (by omega) (by omega) (by omega) (by omega), eo (756 + 10 * r + 4) (by omega) (by omega) (by omega) (by omega) (by omega), eo (756 + 10 * r + 5) (by omega) (by omega) (by omega) (by omega) (by omega), eo (756 + 10 * r + 6) (by omega) (by omega) (by omega) (by omega) (by omega), e8, eo (84 + 5 * nN V (756 + 10 * r + 2) + 3) (by omega) (by omega) (by omega) (by omega) (by omega), eo (84 + 5 * nN V (756 + 10 * r + 2) + 2) (by omega) (by omega) (by omega) (by omega) (by omega)]
      refine ⟨old.1, Or.inr (Or.inl ⟨rfl, m, by omega, rfl, ?_⟩)⟩
      rw [ql_fr (fun c hc => eP m c hm hc) (fun c hc => eo _ (by omega) (by omega) (by omega) (by omega) (by omega))]
      exact hle
    · exact QI_fr (hA r hr2) e0 (by omega) (fun c hc => eo _ (by omega) (by omega) (by omega) (by omega) (by omega)) (fun c hc => eo _ (by omega) (by omega) (by omega) (by omega) (by omega)) eP
  · unfold IB at *
    rw [n6]
    have s1 : sm (fun k => V2 (8 + k)) 8 = sm (fun k => V (8 + k)) 8 + fee := by rw [← asum]; exact sm_c (fun k hk => ei k hk)
    have s2 : sm (fun k => V2 (16 + k)) 8 = sm (fun k => V (16 + k)) 8 + fee := sm_up (f := fun k => V (16 + k)) (g := fun k => V2 (16 + k)) (j := s) eps (fun k hk hk2 => ep k hk hk2) hs
    have s3 : sm (fun r => V2 (756 + 10 * r + 9)) (nN V 6) = sm (fun r => V (756 + 10 * r + 9)) (nN V 6) + fee := sm_up (f := fun r => V (756 + 10 * r + 9)) (g := fun r => V2 (756 + 10 * r + 9)) (j := q) (by show V2 (756 + 10 * q + 9) = V (756 + 10 * q + 9) + fee; rw [e9, z9, Int32.zero_add]) (fun k hk hk2 => eo _ (by omega) (by omega) (by omega) (by omega) (by omega)) hq
    rw [s1, s2, s3, hB.1, hB.2]
    exact ⟨rfl, rfl⟩
  · have k := (okP ho hp).2.1
    exact PI_fr (hP p hp) (by rw [e0]; exact Int32.le_refl _) (fun c hc => eP p c hp hc) (fun i hi => eC _ i k hi)
  · obtain ⟨m1, m2⟩ := hM d hd
    rw [eo _ (by omega) (by omega) (by omega) (by omega) (by omega), lf_fr e0 eC eP (fun p hp => (okP ho hp).2.1)]
    exact ⟨m1, m2⟩
