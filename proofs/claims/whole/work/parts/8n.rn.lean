/-- what reading a letter and a number at p gives: where it ends, and whether it is good -/
def rnG (L : Nat) (T : Nat → Int32) (lt lo hi : Int32) (p : Nat) : Bool := decide ((p < L ∧ T p = lt) ∧ (0 < ndT L T (p + 1) ∧ (lo ≤ vlT T (p + 1) (ndT L T (p + 1)) ∧ vlT T (p + 1) (ndT L T (p + 1)) ≤ hi)))
def rnQ (L : Nat) (T : Nat → Int32) (lt lo hi : Int32) (p : Nat) : Nat := if rnG L T lt lo hi p = true then p + 1 + ndT L T (p + 1) else if p < L ∧ T p = lt then p + 1 else p
theorem nd_in {L : Nat} {T : Nat → Int32} {p : Nat} (hp : p ≤ L) : p + ndT L T p ≤ L := by
  unfold ndT
  by_cases q0 : p < L ∧ T p = 48
  · rw [if_pos q0]; omega
  · rw [if_neg q0]
    by_cases d0 : dgB L T p = true
    · have a0 := (of_decide_eq_true d0).1
      rw [if_pos d0]
      by_cases d1 : dgB L T (p + 1) = true
      · have a1 := (of_decide_eq_true d1).1
        rw [if_pos d1]
        by_cases d2 : dgB L T (p + 2) = true
        · have a2 := (of_decide_eq_true d2).1
          rw [if_pos d2]; omega
        · rw [if_neg d2]; omega
      · rw [if_neg d1]; omega
    · rw [if_neg d0]; omega
theorem le9 {L : Nat} {T : Nat → Int32} {M : xM} (hL : L ≤ 80) (h : TxR L T M) {p : Nat} (hp : p ≤ L) (hpl : M 149 10 = nI p) (lt : Int32) : f_X9_letter M lt = if p < L ∧ T p = lt then some (1, pM M (p + 1)) else some (0, M) := by
  have e0 : f_X9_letter_28 M lt = some (0, M) := by
    unfold f_X9_letter_28 f_X9_letter_29 f_X9_letter_44
    rw [xl_n, if_pos rfl, hpl, ir_0, Nat.add_zero, xl_n, xw_id hpl, show xz 0 = true from by decide, xgd_n]
  have e1 : f_X9_letter_29 M lt 1 = some (1, pM M (p + 1)) := by
    unfold f_X9_letter_29 f_X9_letter_44
    rw [xl_n, if_neg (by decide), hpl, ir_1, xl_n, show xz 1 = true from by decide, xgd_n]
    rfl
  unfold f_X9_letter
  rw [h.1, hpl]
  by_cases q : p < L
  · rw [if_neg (by rw [le_n (by omega) (by omega)]; omega), xin_n (by omega) (by omega), xgd_n, cl_n (by omega), h.2 p q]
    by_cases w : T p = lt
    · rw [if_pos w, if_pos ⟨q, w⟩]; exact e1
    · rw [if_neg w, if_neg (fun z => w z.2)]; exact e0
  · rw [if_pos (by rw [le_n (by omega) (by omega)]; omega), if_neg (fun z => q z.1)]; exact e0
theorem nb9 {L : Nat} {T : Nat → Int32} {M : xM} (hL : L ≤ 80) (h : TxR L T M) {p : Nat} (hp : p ≤ L) (hpl : M 149 10 = nI p) {sl : Nat} (hsl : sl < 4) (lo hi : Int32) : f_X9_number M (nI sl) lo hi = if 0 < ndT L T p ∧ (lo ≤ vlT T p (ndT L T p) ∧ vlT T p (ndT L T p) ≤ hi) then some (1, xw (pM M (p + ndT L T p)) 158 sl (vlT T p (ndT L T p))) else some (0, pM M p) := by
  have hn := nd_le L T p
  rw [nu9 hL h hp hpl]
  unfold f_X9_number_104
  rw [pM_pl]
  by_cases q : ndT L T p = 0
  · rw [if_pos (by rw [q]; rfl), if_neg (by omega), q, Nat.add_zero]
  · rw [if_neg (by rw [eq_n (by omega) (by omega)]; omega), in_e, wi_e, xb_n, ifb0]
    by_cases w : lo ≤ vlT T p (ndT L T p) ∧ vlT T p (ndT L T p) ≤ hi
    · rw [if_pos w, if_pos ⟨by omega, w⟩, xin_n (by omega) (by omega), xgd_n, xl_n, cl_n (by omega)]
    · rw [if_neg w, if_neg (fun z => w z.2), xl_n]
      unfold pM
      rw [xw_xw]
theorem rn8 {L : Nat} {T : Nat → Int32} {M : xM} (hL : L ≤ 80) (h : TxM L T M) {p : Nat} (hp : p ≤ L) (lt : Int32) (hlt : ¬ (-1 : Int32) = lt) {sl : Nat} (hsl : sl < 4) (lo hi : Int32) : f_X7_readNumber M (nI p) lt (nI sl) lo hi = if rnG L T lt lo hi p = true then some (nI (rnQ L T lt lo hi p), xw M 143 sl (vlT T (p + 1) (ndT L T (p + 1)))) else some (-1 - nI (rnQ L T lt lo hi p), M) := by
  unfold f_X7_readNumber f_X7_readNumber_64 f_X7_faultAt rnQ
  rw [if_pos (nI_pos' (by omega)), ba8 hL h (by omega), xb_n]
  by_cases m : p < L ∧ T p = lt
  · have hn := nd_le L T (p + 1)
    have hin := nd_in (L := L) (T := T) (p := p + 1) (by omega)
    rw [if_pos m.1, if_pos m.2, ir_1, xl_n, ed8 hL h (by omega), xb_n, xl_n, vd8 hL h hn hin, xb_n, xl_n]
    by_cases q : ndT L T (p + 1) = 0
    · have g0 : ¬ rnG L T lt lo hi p = true := fun z => by have := (of_decide_eq_true z).2.1; omega
      rw [if_pos (by rw [q]), xb_n, if_neg g0, if_neg g0, if_pos m]
    · rw [if_neg (by rw [eq_n (by omega) (by omega)]; omega)]
      by_cases w1 : vlT T (p + 1) (ndT L T (p + 1)) < lo
      · have g0 : ¬ rnG L T lt lo hi p = true := fun z => absurd (of_decide_eq_true z).2.2.1 (Int32.not_le.mpr w1)
        rw [if_pos w1, xb_n, if_neg g0, if_neg g0, if_pos m]
      · rw [if_neg w1]
        by_cases w2 : vlT T (p + 1) (ndT L T (p + 1)) ≤ hi
        · have g1 : rnG L T lt lo hi p = true := decide_eq_true ⟨m, by omega, Int32.not_lt.mp w1, w2⟩
          rw [if_pos w2, if_neg (nI_pos (by omega)), if_neg (by rw [li_4, le_n (by omega) (by omega)]; omega), xin_n (by omega) (by omega), xgd_n, xl_n, cl_n (by omega), if_pos g1, if_pos g1]
        · have g0 : ¬ rnG L T lt lo hi p = true := fun z => w2 (of_decide_eq_true z).2.2.2
          rw [if_neg w2, xb_n, if_neg g0, if_neg g0, if_pos m]
  · have g0 : ¬ rnG L T lt lo hi p = true := fun z => m (of_decide_eq_true z).1
    have ne : ¬ (if p < L then T p else -1) = lt := fun w => by
      by_cases q : p < L
      · rw [if_pos q] at w; exact m ⟨q, w⟩
      · rw [if_neg q] at w; exact hlt w
    rw [if_neg ne, xb_n, if_neg g0, if_neg g0, if_neg m]
