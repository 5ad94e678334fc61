/-! an act of the text: the same on both sides -/
def enP (s : Bool × Nat) : Int32 := if s.1 = true then nI s.2 else -1 - nI s.2
theorem en_fin : ∀ q : Fin 82, ¬ (0 : Int32) ≤ -1 - nI q.val ∧ (-1 : Int32) - (-1 - nI q.val) = nI q.val ∧ ∀ p : Fin 82, ¬ nI p.val < -1 - nI q.val := by decide +kernel
def nvT (L : Nat) (T : Nat → Int32) (p : Nat) : Int32 := vlT T (p + 1) (ndT L T (p + 1))
def stp (L : Nat) (T : Nat → Int32) (lt lo hi : Int32) (s : Bool × Nat) : Bool × Nat := if s.1 = true then (rnG L T lt lo hi s.2, rnQ L T lt lo hi s.2) else s
def enA (L : Nat) (T : Nat → Int32) (s : Bool × Nat) : Bool × Nat := if s.1 = true then (if s.2 < L ∧ T s.2 = 59 then (true, s.2 + 1) else (false, s.2)) else s
def f8 (M M1 : xM) : Prop := ∀ k, k ≠ 143 → M1 k = M k
theorem TxM_f {L : Nat} {T : Nat → Int32} {M M1 : xM} (h : TxM L T M) (f : f8 M M1) : TxM L T M1 := ⟨by rw [f 141 (by decide)]; exact h.1, fun j hj => by rw [f 142 (by decide)]; exact h.2 j hj⟩
theorem rnQ_le {L : Nat} {T : Nat → Int32} {lt lo hi : Int32} {p : Nat} (h : p ≤ L) : rnQ L T lt lo hi p ≤ L := by
  unfold rnQ
  by_cases q : rnG L T lt lo hi p = true
  · have a := (of_decide_eq_true q).1.1
    have := nd_in (L := L) (T := T) (p := p + 1) (by omega)
    rw [if_pos q]; omega
  · rw [if_neg q]
    by_cases m : p < L ∧ T p = lt
    · rw [if_pos m]; omega
    · rw [if_neg m]; exact h
theorem rnQ_ge {L : Nat} {T : Nat → Int32} {lt lo hi : Int32} {p : Nat} : p ≤ rnQ L T lt lo hi p := by
  unfold rnQ
  by_cases q : rnG L T lt lo hi p = true
  · rw [if_pos q]; omega
  · rw [if_neg q]
    by_cases m : p < L ∧ T p = lt
    · rw [if_pos m]; omega
    · rw [if_neg m]; omega
theorem stp_le {L : Nat} {T : Nat → Int32} {lt lo hi : Int32} {s : Bool × Nat} (h : s.2 ≤ L) : (stp L T lt lo hi s).2 ≤ L := by
  unfold stp
  by_cases q : s.1 = true
  · rw [if_pos q]; exact rnQ_le h
  · rw [if_neg q]; exact h
theorem stp_ge {L : Nat} {T : Nat → Int32} {lt lo hi : Int32} {s : Bool × Nat} : s.2 ≤ (stp L T lt lo hi s).2 := by
  unfold stp
  by_cases q : s.1 = true
  · rw [if_pos q]; exact rnQ_ge
  · rw [if_neg q]; exact Nat.le_refl _
theorem enA_le {L : Nat} {T : Nat → Int32} {s : Bool × Nat} (h : s.2 ≤ L) : (enA L T s).2 ≤ L := by
  unfold enA
  by_cases q : s.1 = true
  · rw [if_pos q]
    by_cases m : s.2 < L ∧ T s.2 = 59
    · rw [if_pos m]; exact m.1
    · rw [if_neg m]; exact h
  · rw [if_neg q]; exact h
theorem enA_gt {L : Nat} {T : Nat → Int32} {s : Bool × Nat} (h : (enA L T s).1 = true) : s.1 = true ∧ (enA L T s).2 = s.2 + 1 := by
  unfold enA at *
  by_cases q : s.1 = true
  · rw [if_pos q] at h
    rw [if_pos q]
    by_cases m : s.2 < L ∧ T s.2 = 59
    · rw [if_pos m]; exact ⟨q, rfl⟩
    · rw [if_neg m] at h; exact absurd h Bool.false_ne_true
  · rw [if_neg q] at h; exact absurd h q
theorem stp_t {L : Nat} {T : Nat → Int32} {lt lo hi : Int32} {s : Bool × Nat} (h : (stp L T lt lo hi s).1 = true) : s.1 = true ∧ rnG L T lt lo hi s.2 = true := by
  unfold stp at h
  by_cases q : s.1 = true
  · rw [if_pos q] at h; exact ⟨q, h⟩
  · rw [if_neg q] at h; exact absurd h q
theorem rdn8 {L : Nat} {T : Nat → Int32} {M : xM} (hL : L ≤ 80) (h : TxM L T M) {s : Bool × Nat} (hs : s.2 ≤ L) (lt : Int32) (hlt : ¬ (-1 : Int32) = lt) (sl : Nat) (hsl : sl < 4) (lo hi : Int32) : ∃ M1, f_X7_readNumber M (enP s) lt (nI sl) lo hi = some (enP (stp L T lt lo hi s), M1) ∧ f8 M M1 ∧ (∀ j, j ≠ sl → M1 143 j = M 143 j) ∧ ((stp L T lt lo hi s).1 = true → M1 143 sl = nvT L T s.2) := by
  by_cases q : s.1 = true
  · have e : enP s = nI s.2 := by unfold enP; rw [if_pos q]
    rw [e, rn8 hL h hs lt hlt hsl]
    unfold stp
    rw [if_pos q]
    unfold enP
    by_cases g : rnG L T lt lo hi s.2 = true
    · rw [if_pos g, if_pos g]
      exact ⟨_, rfl, fun k hk => xw_ne hk, fun j hj => xw_o (by omega), fun _ => xw_same⟩
    · rw [if_neg g, if_neg g]
      exact ⟨_, rfl, fun _ _ => rfl, fun _ _ => rfl, fun w => absurd w g⟩
  · have e : enP s = -1 - nI s.2 := by unfold enP; rw [if_neg q]
    have e2 : stp L T lt lo hi s = s := by unfold stp; rw [if_neg q]
    rw [e2, e]
    refine ⟨M, ?_, fun _ _ => rfl, fun _ _ => rfl, fun w => absurd w q⟩
    unfold f_X7_readNumber
    rw [if_neg (en_fin ⟨s.2, by omega⟩).1]
theorem rde8 {L : Nat} {T : Nat → Int32} {M : xM} (hL : L ≤ 80) (h : TxM L T M) {s : Bool × Nat} (hs : s.2 ≤ L) : f_X7_readEnd M (enP s) = some (enP (enA L T s)) := by
  unfold f_X7_readEnd enA f_X7_faultAt
  by_cases q : s.1 = true
  · have e : enP s = nI s.2 := by unfold enP; rw [if_pos q]
    rw [e, if_pos (nI_pos' (by omega)), ba8 hL h (by omega), xb_n, xb_n, if_pos q]
    by_cases m : s.2 < L
    · rw [if_pos m]
      by_cases w : T s.2 = 59
      · rw [if_pos w, if_pos ⟨m, w⟩, ir_1]; rfl
      · rw [if_neg w, if_neg (fun z => w z.2)]; rfl
    · rw [if_neg m, if_neg (by decide), if_neg (fun z => m z.1)]; rfl
  · have e : enP s = -1 - nI s.2 := by unfold enP; rw [if_neg q]
    rw [if_neg q, e, if_neg (en_fin ⟨s.2, by omega⟩).1]
def tx1 (L : Nat) (T : Nat → Int32) (p : Nat) : Bool × Nat := stp L T 116 0 7 (true, p)
def tx2 (L : Nat) (T : Nat → Int32) (p : Nat) : Bool × Nat := stp L T 109 0 3 (tx1 L T p)
def tx3 (L : Nat) (T : Nat → Int32) (p : Nat) : Bool × Nat := stp L T 118 1 380 (tx2 L T p)
def tx4 (L : Nat) (T : Nat → Int32) (p : Nat) : Bool × Nat := stp L T 115 0 1 (tx3 L T p)
/-- an act at p: whether it is good, and where it ends or fails -/
def txO (L : Nat) (T : Nat → Int32) (p : Nat) : Bool × Nat := if T p = 97 then enA L T (stp L T 97 0 15 (true, p)) else if T p = 100 then enA L T (stp L T 100 1 99 (true, p)) else if T p = 116 then enA L T (tx4 L T p) else (false, p)
def txW (L : Nat) (T : Nat → Int32) (p : Nat) (f : Nat → Int32) : Prop := f 0 = nvT L T p ∧ (T p = 116 → f 1 = nvT L T (tx1 L T p).2 ∧ f 2 = nvT L T (tx2 L T p).2 ∧ f 3 = nvT L T (tx3 L T p).2)
theorem txO_le {L : Nat} {T : Nat → Int32} {p : Nat} (h : p ≤ L) : (txO L T p).2 ≤ L := by
  unfold txO tx4 tx3 tx2 tx1
  by_cases q1 : T p = 97
  · rw [if_pos q1]; exact enA_le (stp_le h)
  · rw [if_neg q1]
    by_cases q2 : T p = 100
    · rw [if_pos q2]; exact enA_le (stp_le h)
    · rw [if_neg q2]
      by_cases q3 : T p = 116
      · rw [if_pos q3]; exact enA_le (stp_le (stp_le (stp_le (stp_le h))))
      · rw [if_neg q3]; exact h
theorem txO_gt {L : Nat} {T : Nat → Int32} {p : Nat} (h : (txO L T p).1 = true) : p < (txO L T p).2 := by
  unfold txO tx4 tx3 tx2 tx1 at *
  by_cases q1 : T p = 97
  · rw [if_pos q1] at h ⊢
    have a := (enA_gt h).2
    have b := stp_ge (L := L) (T := T) (lt := 97) (lo := 0) (hi := 15) (s := (true, p))
    rw [a]; exact Nat.lt_succ_of_le b
  · rw [if_neg q1] at h ⊢
    by_cases q2 : T p = 100
    · rw [if_pos q2] at h ⊢
      have a := (enA_gt h).2
      have b := stp_ge (L := L) (T := T) (lt := 100) (lo := 1) (hi := 99) (s := (true, p))
      rw [a]; exact Nat.lt_succ_of_le b
    · rw [if_neg q2] at h ⊢
      by_cases q3 : T p = 116
      · rw [if_pos q3] at h ⊢
        have a := (enA_gt h).2
        rw [a]
        exact Nat.lt_succ_of_le (Nat.le_trans (Nat.le_trans (Nat.le_trans (stp_ge (s := (true, p))) stp_ge) stp_ge) stp_ge)
      · rw [if_neg q3] at h; exact absurd h Bool.false_ne_true
theorem ra8 {L : Nat} {T : Nat → Int32} {M : xM} (hL : L ≤ 80) (h : TxM L T M) {p : Nat} (hp : p < L) : ∃ M1, f_X7_readAct M (nI p) = some (enP (txO L T p), M1) ∧ f8 M M1 ∧ ((txO L T p).1 = true → txW L T p (M1 143)) := by
  have e0 : nI p = enP (true, p) := by unfold enP; rw [if_pos rfl]
  have hb := ba8 hL h (p := p) (by omega)
  rw [if_pos hp] at hb
  unfold f_X7_readAct txO
  rw [hb, xb_n]
  by_cases q1 : T p = 97
  · have q3 : ¬ T p = 116 := by rw [q1]; decide
    obtain ⟨M1, a1, a2, a3, a4⟩ := rdn8 hL h (s := (true, p)) (Nat.le_of_lt hp) 97 (by decide) 0 (by decide) 0 15
    rw [if_pos q1, if_pos q1, e0]
    refine ⟨M1, ?_, a2, fun w => ⟨a4 (enA_gt w).1, fun z => absurd z q3⟩⟩
    have a1' : f_X7_readNumber M (enP (true, p)) 97 0 0 15 = some (enP (stp L T 97 0 15 (true, p)), M1) := a1
    rw [a1', xb2_n, rde8 hL (TxM_f h a2) (stp_le (Nat.le_of_lt hp)), xb_n]
  · rw [if_neg q1, if_neg q1]
    by_cases q2 : T p = 100
    · have q3 : ¬ T p = 116 := by rw [q2]; decide
      obtain ⟨M1, a1, a2, a3, a4⟩ := rdn8 hL h (s := (true, p)) (Nat.le_of_lt hp) 100 (by decide) 0 (by decide) 1 99
      rw [if_pos q2, if_pos q2, e0]
      refine ⟨M1, ?_, a2, fun w => ⟨a4 (enA_gt w).1, fun z => absurd z q3⟩⟩
      have a1' : f_X7_readNumber M (enP (true, p)) 100 0 1 99 = some (enP (stp L T 100 1 99 (true, p)), M1) := a1
      rw [a1', xb2_n, rde8 hL (TxM_f h a2) (stp_le (Nat.le_of_lt hp)), xb_n]
    · rw [if_neg q2, if_neg q2]
      by_cases q3 : T p = 116
      · have l1 : (tx1 L T p).2 ≤ L := stp_le (Nat.le_of_lt hp)
        have l2 : (tx2 L T p).2 ≤ L := stp_le l1
        have l3 : (tx3 L T p).2 ≤ L := stp_le l2
        have l4 : (tx4 L T p).2 ≤ L := stp_le l3
        obtain ⟨M1, a1, a2, a3, a4⟩ := rdn8 hL h (s := (true, p)) (Nat.le_of_lt hp) 116 (by decide) 0 (by decide) 0 7
        obtain ⟨M2, b1, b2, b3, b4⟩ := rdn8 hL (TxM_f h a2) (s := tx1 L T p) l1 109 (by decide) 1 (by decide) 0 3
        obtain ⟨M3, c1, c2, c3, c4⟩ := rdn8 hL (TxM_f (TxM_f h a2) b2) (s := tx2 L T p) l2 118 (by decide) 2 (by decide) 1 380
        obtain ⟨M4, d1, d2, d3, d4⟩ := rdn8 hL (TxM_f (TxM_f (TxM_f h a2) b2) c2) (s := tx3 L T p) l3 115 (by decide) 3 (by decide) 0 1
        have f2 : f8 M M2 := fun k hk => (b2 k hk).trans (a2 k hk)
        have f3 : f8 M M3 := fun k hk => (c2 k hk).trans (f2 k hk)
        have f4 : f8 M M4 := fun k hk => (d2 k hk).trans (f3 k hk)
        rw [if_pos q3, if_pos q3, e0]
        refine ⟨M4, ?_, f4, fun w => ?_⟩
        · have a1' : f_X7_readNumber M (enP (true, p)) 116 0 0 7 = some (enP (tx1 L T p), M1) := a1
          have b1' : f_X7_readNumber M1 (enP (tx1 L T p)) 109 1 0 3 = some (enP (tx2 L T p), M2) := b1
          have c1' : f_X7_readNumber M2 (enP (tx2 L T p)) 118 2 1 380 = some (enP (tx3 L T p), M3) := c1
          have d1' : f_X7_readNumber M3 (enP (tx3 L T p)) 115 3 0 1 = some (enP (tx4 L T p), M4) := d1
          rw [a1', xb2_n, b1', xb2_n, xl_n, c1', xb2_n, d1', xb2_n, rde8 hL (TxM_f h f4) l4, xb_n]
        · have w4 : (tx4 L T p).1 = true := (enA_gt w).1
          have w3 : (tx3 L T p).1 = true := (stp_t w4).1
          have w2 : (tx2 L T p).1 = true := (stp_t w3).1
          have w1 : (tx1 L T p).1 = true := (stp_t w2).1
          refine ⟨?_, fun _ => ⟨?_, ?_, ?_⟩⟩
          · rw [d3 0 (by decide), c3 0 (by decide), b3 0 (by decide)]; exact a4 w1
          · rw [d3 1 (by decide), c3 1 (by decide)]; exact b4 w2
          · rw [d3 2 (by decide)]; exact c4 w3
          · exact d4 w4
      · rw [if_neg q3, if_neg q3]
        unfold f_X7_faultAt
        exact ⟨M, by rw [xb_n]; rfl, fun _ _ => rfl, fun w => absurd w Bool.false_ne_true⟩
