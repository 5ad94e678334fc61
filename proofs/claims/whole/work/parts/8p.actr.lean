/-! an act of the text: the reference's side -/
def f9 (M M1 : xM) : Prop := (∀ k, k ≠ 149 → k ≠ 158 → M1 k = M k) ∧ (∀ j, j ≠ 10 → M1 149 j = M 149 j)
def g9 (M M1 : xM) : Prop := (∀ k, k ≠ 149 → k ≠ 158 → M1 k = M k) ∧ (∀ j, j ≠ 10 → j ≠ 11 → M1 149 j = M 149 j)
theorem f9_t {M M1 M2 : xM} (h : f9 M M1) (h2 : f9 M1 M2) : f9 M M2 := ⟨fun k a b => (h2.1 k a b).trans (h.1 k a b), fun j a => (h2.2 j a).trans (h.2 j a)⟩
theorem g9_t {M M1 M2 : xM} (h : g9 M M1) (h2 : g9 M1 M2) : g9 M M2 := ⟨fun k a b => (h2.1 k a b).trans (h.1 k a b), fun j a b => (h2.2 j a b).trans (h.2 j a b)⟩
theorem g9_f {M M1 : xM} (h : f9 M M1) : g9 M M1 := ⟨h.1, fun j a _ => h.2 j a⟩
theorem f9_pM {M : xM} {q : Nat} : f9 M (pM M q) := ⟨fun k a _ => xw_ne a, fun j a => xw_o (by omega)⟩
theorem f9_id {M : xM} : f9 M M := ⟨fun _ _ _ => rfl, fun _ _ => rfl⟩
theorem TxR_f {L : Nat} {T : Nat → Int32} {M M1 : xM} (h : TxR L T M) (f : g9 M M1) : TxR L T M1 := ⟨(f.2 6 (by decide) (by decide)).trans h.1, fun j hj => by rw [f.1 154 (by decide) (by decide)]; exact h.2 j hj⟩
theorem nbK {L : Nat} {T : Nat → Int32} {M : xM} (hL : L ≤ 80) (h : TxR L T M) {p : Nat} (lt lo hi : Int32) (hm : p < L ∧ T p = lt) (hpl : M 149 10 = nI (p + 1)) (sl : Nat) (hsl : sl < 4) {sI : Int32} (hI : sI = nI sl) : ∃ M1, f9 M M1 ∧ M1 149 10 = nI (rnQ L T lt lo hi p) ∧ (∀ j, j ≠ sl → M1 158 j = M 158 j) ∧ (rnG L T lt lo hi p = true → M1 158 sl = nvT L T p) ∧ ∀ K : xM → Option (Int32 × xM), (xb2 (f_X9_number M sI lo hi) fun v M5 => if v = 0 then some (0, M5) else K M5) = if rnG L T lt lo hi p = true then K M1 else some (0, M1) := by
  subst hI
  have nb := nb9 hL h (p := p + 1) (by omega) hpl hsl lo hi
  by_cases g : 0 < ndT L T (p + 1) ∧ (lo ≤ vlT T (p + 1) (ndT L T (p + 1)) ∧ vlT T (p + 1) (ndT L T (p + 1)) ≤ hi)
  · have gg : rnG L T lt lo hi p = true := decide_eq_true ⟨hm, g⟩
    have eq : rnQ L T lt lo hi p = p + 1 + ndT L T (p + 1) := by unfold rnQ; rw [if_pos gg]
    rw [if_pos g] at nb
    refine ⟨xw (pM M (p + 1 + ndT L T (p + 1))) 158 sl (vlT T (p + 1) (ndT L T (p + 1))), ⟨fun k a b => by rw [xw_ne b]; exact xw_ne a, fun j a => by rw [xw_ne (by decide)]; exact xw_o (by omega)⟩, ?_, fun j hj => ?_, fun _ => xw_same, fun K => ?_⟩
    · rw [xw_ne (by decide), pM_pl, eq]
    · rw [xw_o (by omega)]; unfold pM; rw [xw_ne (by decide)]
    · rw [nb, xb2_n, if_neg (by decide), if_pos gg]
  · have gg : ¬ rnG L T lt lo hi p = true := fun w => g (of_decide_eq_true w).2
    have eq : rnQ L T lt lo hi p = p + 1 := by unfold rnQ; rw [if_neg gg, if_pos hm]
    rw [if_neg g] at nb
    refine ⟨pM M (p + 1), f9_pM, ?_, fun j hj => ?_, fun w => absurd w gg, fun K => ?_⟩
    · rw [pM_pl, eq]
    · unfold pM; rw [xw_ne (by decide)]
    · rw [nb, xb2_n, if_pos rfl, if_neg gg]
theorem ltn9 {L : Nat} {T : Nat → Int32} {M : xM} (hL : L ≤ 80) (h : TxR L T M) {p : Nat} (lt lo hi : Int32) (hp : p ≤ L) (hpl : M 149 10 = nI p) (sl : Nat) (hsl : sl < 4) {sI : Int32} (hI : sI = nI sl) : ∃ M1, f9 M M1 ∧ M1 149 10 = nI (rnQ L T lt lo hi p) ∧ (∀ j, j ≠ sl → M1 158 j = M 158 j) ∧ (rnG L T lt lo hi p = true → M1 158 sl = nvT L T p) ∧ ∀ K : xM → Option (Int32 × xM), (xb2 (f_X9_letter M lt) fun u M3 => if u = 0 then some (0, M3) else xb2 (f_X9_number M3 sI lo hi) fun v M5 => if v = 0 then some (0, M5) else K M5) = if rnG L T lt lo hi p = true then K M1 else some (0, M1) := by
  have e := le9 hL h hp hpl lt
  by_cases m : p < L ∧ T p = lt
  · rw [if_pos m] at e
    obtain ⟨M1, a1, a2, a3, a4, a5⟩ := nbK hL (pM_tx h (q := p + 1)) lt lo hi m pM_pl sl hsl hI
    refine ⟨M1, f9_t f9_pM a1, a2, fun j hj => (a3 j hj).trans (by unfold pM; rw [xw_ne (by decide)]), a4, fun K => ?_⟩
    rw [e, xb2_n, if_neg (by decide)]
    exact a5 K
  · have gg : ¬ rnG L T lt lo hi p = true := fun w => m (of_decide_eq_true w).1
    have eq : rnQ L T lt lo hi p = p := by unfold rnQ; rw [if_neg gg, if_neg m]
    rw [if_neg m] at e
    refine ⟨M, f9_id, by rw [eq]; exact hpl, fun _ _ => rfl, fun w => absurd w gg, fun K => ?_⟩
    rw [e, xb2_n, if_pos rfl, if_neg gg]
theorem end9 {L : Nat} {T : Nat → Int32} {M : xM} (hL : L ≤ 80) (h : TxR L T M) {p : Nat} (hp : p ≤ L) (hpl : M 149 10 = nI p) : ∃ M1, f9 M M1 ∧ M1 149 10 = nI (enA L T (true, p)).2 ∧ M1 158 = M 158 ∧ (xb2 (f_X9_letter M 59) fun u M3 => if u = 0 then some (0, M3) else some (1, M3)) = some (bI ((enA L T (true, p)).1 = true), M1) := by
  have e := le9 hL h hp hpl 59
  by_cases m : p < L ∧ T p = 59
  · have q : enA L T (true, p) = (true, p + 1) := by unfold enA; rw [if_pos rfl, if_pos m]
    rw [if_pos m] at e
    exact ⟨pM M (p + 1), f9_pM, by rw [q, pM_pl], by unfold pM; rw [xw_ne (by decide)], by rw [e, xb2_n, if_neg (by decide), q]; rfl⟩
  · have q : enA L T (true, p) = (false, p) := by unfold enA; rw [if_pos rfl, if_neg m]
    rw [if_neg m] at e
    exact ⟨M, f9_id, by rw [q]; exact hpl, rfl, by rw [e, xb2_n, if_pos rfl, q]; rfl⟩
theorem ra9 {L : Nat} {T : Nat → Int32} {M : xM} (hL : L ≤ 80) (h : TxR L T M) {p : Nat} (hp : p < L) (hpl : M 149 10 = nI p) : ∃ M1, f_X9_readAct M = some (bI ((txO L T p).1 = true), M1) ∧ g9 M M1 ∧ M1 149 10 = nI (txO L T p).2 ∧ ((txO L T p).1 = true → M1 149 11 = T p ∧ txW L T p (M1 158)) := by
  obtain ⟨N, hN⟩ : ∃ N, N = xw M 149 11 (T p) := ⟨_, rfl⟩
  have g0 : g9 M N := by rw [hN]; exact ⟨fun k a _ => xw_ne a, fun j _ b => xw_o (by omega)⟩
  have h0 := TxR_f h g0
  have k0 : N 149 10 = nI p := by rw [hN]; exact (xw_o (by omega)).trans hpl
  have k11 : N 149 11 = T p := by rw [hN]; exact xw_same
  have lt := fun c => le9 hL h0 (Nat.le_of_lt hp) k0 c
  have kk : ∀ M1, f9 N M1 → M1 149 11 = T p := fun M1 f => (f.2 11 (by decide)).trans k11
  have e25 : f_X9_readAct M = f_X9_readAct_25 M (T p) := by
    unfold f_X9_readAct
    rw [h.1, hpl, if_neg (by rw [le_n (by omega) (by omega)]; omega), xin_n (by omega) (by omega), xgd_n, cl_n (by omega), h.2 p hp]
  have h1 := pM_tx h0 (q := p + 1)
  have one : ¬ (1 : Int32) = 0 := by decide
  rw [e25]
  unfold f_X9_readAct_25
  rw [xl_n, ← hN]
  by_cases q3 : T p = 116
  · have n1 : ¬ T p = 97 := by rw [q3]; decide
    have n2 : ¬ T p = 100 := by rw [q3]; decide
    have eO : txO L T p = enA L T (tx4 L T p) := by unfold txO; rw [if_neg n1, if_neg n2, if_pos q3]
    rw [lt 116, if_pos ⟨hp, q3⟩, xb2_n, if_neg one, eO]
    have t1 : tx1 L T p = (rnG L T 116 0 7 p, rnQ L T 116 0 7 p) := rfl
    have t2 : tx2 L T p = stp L T 109 0 3 (tx1 L T p) := rfl
    have t3 : tx3 L T p = stp L T 118 1 380 (tx2 L T p) := rfl
    have t4 : tx4 L T p = stp L T 115 0 1 (tx3 L T p) := rfl
    have sf : ∀ {lt lo hi : Int32} {q : Nat}, stp L T lt lo hi (false, q) = (false, q) := fun {_ _ _ _} => rfl
    have st : ∀ {lt lo hi : Int32} {q : Nat}, stp L T lt lo hi (true, q) = (rnG L T lt lo hi q, rnQ L T lt lo hi q) := fun {_ _ _ _} => rfl
    have ef : ∀ {q : Nat}, enA L T (false, q) = (false, q) := fun {_} => rfl
    obtain ⟨M1, a1, a2, a3, a4, a5⟩ := nbK hL h1 116 0 7 ⟨hp, q3⟩ pM_pl 0 (by decide) (sI := 0) rfl
    have l1 : rnQ L T 116 0 7 p ≤ L := rnQ_le (Nat.le_of_lt hp)
    have f1 : f9 N M1 := f9_t f9_pM a1
    rw [a5]
    by_cases r1 : rnG L T 116 0 7 p = true
    case neg =>
      rw [if_neg r1, t4, t3, t2, t1, Bool.eq_false_iff.mpr r1, sf, sf, sf, ef]
      exact ⟨M1, rfl, g9_t g0 (g9_f f1), a2, fun w => absurd w Bool.false_ne_true⟩
    rw [if_pos r1]
    rw [r1] at t1
    rw [t1, st] at t2
    obtain ⟨M2, b1, b2, b3, b4, b5⟩ := ltn9 hL (TxR_f h0 (g9_f f1)) 109 0 3 l1 a2 1 (by decide) (sI := 1) rfl
    have l2 : rnQ L T 109 0 3 (rnQ L T 116 0 7 p) ≤ L := rnQ_le l1
    have f2 : f9 N M2 := f9_t f1 b1
    rw [b5]
    by_cases r2 : rnG L T 109 0 3 (rnQ L T 116 0 7 p) = true
    case neg =>
      rw [if_neg r2, t4, t3, t2, Bool.eq_false_iff.mpr r2, sf, sf, ef]
      exact ⟨M2, rfl, g9_t g0 (g9_f f2), b2, fun w => absurd w Bool.false_ne_true⟩
    rw [if_pos r2]
    rw [r2] at t2
    rw [t2, st] at t3
    obtain ⟨M3, c1, c2, c3, c4, c5⟩ := ltn9 hL (TxR_f h0 (g9_f f2)) 118 1 380 l2 b2 2 (by decide) (sI := 2) rfl
    have l3 : rnQ L T 118 1 380 (rnQ L T 109 0 3 (rnQ L T 116 0 7 p)) ≤ L := rnQ_le l2
    have f3 : f9 N M3 := f9_t f2 c1
    rw [c5]
    by_cases r3 : rnG L T 118 1 380 (rnQ L T 109 0 3 (rnQ L T 116 0 7 p)) = true
    case neg =>
      rw [if_neg r3, t4, t3, Bool.eq_false_iff.mpr r3, sf, ef]
      exact ⟨M3, rfl, g9_t g0 (g9_f f3), c2, fun w => absurd w Bool.false_ne_true⟩
    rw [if_pos r3]
    rw [r3] at t3
    rw [t3, st] at t4
    obtain ⟨M4, d1, d2, d3, d4, d5⟩ := ltn9 hL (TxR_f h0 (g9_f f3)) 115 0 1 l3 c2 3 (by decide) (sI := 3) rfl
    have l4 : rnQ L T 115 0 1 (rnQ L T 118 1 380 (rnQ L T 109 0 3 (rnQ L T 116 0 7 p))) ≤ L := rnQ_le l3
    have f4 : f9 N M4 := f9_t f3 d1
    rw [d5]
    by_cases r4 : rnG L T 115 0 1 (rnQ L T 118 1 380 (rnQ L T 109 0 3 (rnQ L T 116 0 7 p))) = true
    case neg =>
      rw [if_neg r4, t4, Bool.eq_false_iff.mpr r4, ef]
      exact ⟨M4, rfl, g9_t g0 (g9_f f4), d2, fun w => absurd w Bool.false_ne_true⟩
    rw [if_pos r4]
    rw [r4] at t4
    obtain ⟨M5, e1, e2, e3, e4⟩ := end9 hL (TxR_f h0 (g9_f f4)) l4 d2
    rw [e4, t4]
    refine ⟨M5, rfl, g9_t g0 (g9_f (f9_t f4 e1)), e2, fun _ => ⟨kk _ (f9_t f4 e1), ?_⟩⟩
    rw [e3]
    unfold txW
    refine ⟨?_, fun _ => ⟨?_, ?_, ?_⟩⟩
    · rw [d3 0 (by decide), c3 0 (by decide), b3 0 (by decide)]; exact a4 r1
    · rw [d3 1 (by decide), c3 1 (by decide), t1]; exact b4 r2
    · rw [d3 2 (by decide), t2]; exact c4 r3
    · rw [t3]; exact d4 r4
  · rw [lt 116, if_neg (fun z => q3 z.2), xb2_n, if_pos rfl, lt 97]
    by_cases q1 : T p = 97
    · have eO : txO L T p = enA L T (rnG L T 97 0 15 p, rnQ L T 97 0 15 p) := by unfold txO; rw [if_pos q1]; rfl
      obtain ⟨M1, a1, a2, a3, a4, a5⟩ := nbK hL h1 97 0 15 ⟨hp, q1⟩ pM_pl 0 (by decide) (sI := 0) rfl
      have l1 : rnQ L T 97 0 15 p ≤ L := rnQ_le (Nat.le_of_lt hp)
      have f1 : f9 N M1 := f9_t f9_pM a1
      rw [if_pos ⟨hp, q1⟩, xb2_n, if_neg one, eO, a5]
      by_cases r1 : rnG L T 97 0 15 p = true
      case neg =>
        rw [if_neg r1, Bool.eq_false_iff.mpr r1]
        exact ⟨M1, rfl, g9_t g0 (g9_f f1), a2, fun w => absurd w Bool.false_ne_true⟩
      obtain ⟨M5, e1, e2, e3, e4⟩ := end9 hL (TxR_f h0 (g9_f f1)) l1 a2
      rw [if_pos r1, e4, r1]
      refine ⟨M5, rfl, g9_t g0 (g9_f (f9_t f1 e1)), e2, fun _ => ⟨kk _ (f9_t f1 e1), ?_, fun z => absurd z q3⟩⟩
      rw [e3]; exact a4 r1
    · rw [if_neg (fun z => q1 z.2), xb2_n, if_pos rfl, lt 100]
      by_cases q2 : T p = 100
      · have eO : txO L T p = enA L T (rnG L T 100 1 99 p, rnQ L T 100 1 99 p) := by unfold txO; rw [if_neg q1, if_pos q2]; rfl
        obtain ⟨M1, a1, a2, a3, a4, a5⟩ := nbK hL h1 100 1 99 ⟨hp, q2⟩ pM_pl 0 (by decide) (sI := 0) rfl
        have l1 : rnQ L T 100 1 99 p ≤ L := rnQ_le (Nat.le_of_lt hp)
        have f1 : f9 N M1 := f9_t f9_pM a1
        rw [if_pos ⟨hp, q2⟩, xb2_n, if_neg one, eO, a5]
        by_cases r1 : rnG L T 100 1 99 p = true
        case neg =>
          rw [if_neg r1, Bool.eq_false_iff.mpr r1]
          exact ⟨M1, rfl, g9_t g0 (g9_f f1), a2, fun w => absurd w Bool.false_ne_true⟩
        obtain ⟨M5, e1, e2, e3, e4⟩ := end9 hL (TxR_f h0 (g9_f f1)) l1 a2
        rw [if_pos r1, e4, r1]
        refine ⟨M5, rfl, g9_t g0 (g9_f (f9_t f1 e1)), e2, fun _ => ⟨kk _ (f9_t f1 e1), ?_, fun z => absurd z q3⟩⟩
        rw [e3]; exact a4 r1
      · have eO : txO L T p = (false, p) := by unfold txO; rw [if_neg q1, if_neg q2, if_neg q3]
        rw [if_neg (fun z => q2 z.2), xb2_n, if_pos rfl, eO]
        exact ⟨N, rfl, g0, k0, fun w => absurd w Bool.false_ne_true⟩
