/-! the text: bytes and digits -/
def TxM (L : Nat) (T : Nat → Int32) (M : xM) : Prop := M 141 2 = nI L ∧ ∀ j, j < L → M 142 j = T j
theorem ba8 {L : Nat} {T : Nat → Int32} {M : xM} (hL : L ≤ 80) (h : TxM L T M) {p : Nat} (hp : p < 100000) : f_X7_byteAt M (nI p) = some (if p < L then T p else -1) := by
  unfold f_X7_byteAt
  rw [if_neg (nI_pos (by omega)), h.1]
  by_cases q : p < L
  · rw [if_neg (by rw [le_n (by omega) (by omega)]; omega), if_neg (by rw [li_80, le_n (by omega) (by omega)]; omega), xin_n (by omega) (by omega), xgd_n, cl_n (by omega), h.2 p q, if_pos q]
  · rw [if_pos (by rw [le_n (by omega) (by omega)]; omega), if_neg q]
def dgB (L : Nat) (T : Nat → Int32) (i : Nat) : Bool := decide (i < L ∧ 48 ≤ T i ∧ T i ≤ 57)
/-- how many digits stand at p, at most three, a zero alone -/
def ndT (L : Nat) (T : Nat → Int32) (p : Nat) : Nat := if p < L ∧ T p = 48 then 1 else if dgB L T p = true then (if dgB L T (p + 1) = true then (if dgB L T (p + 2) = true then 3 else 2) else 1) else 0
theorem nd_le (L : Nat) (T : Nat → Int32) (p : Nat) : ndT L T p ≤ 3 := by
  unfold ndT
  repeat' split
  all_goals decide
theorem ed8 {L : Nat} {T : Nat → Int32} {M : xM} (hL : L ≤ 80) (h : TxM L T M) {p : Nat} (hp : p ≤ 80) : f_X7_endOfDigits M (nI p) = some (nI (p + ndT L T p)) := by
  have ndg : ∀ i, ¬ dgB L T i = true → i ≤ 83 → (if i < L then T i else -1) < 48 ∨ 57 < (if i < L then T i else -1) := fun i hi _ => by
    by_cases q : i < L
    · rw [if_pos q]
      by_cases q2 : T i < 48
      · exact Or.inl q2
      · refine Or.inr (Int32.not_le.mp (fun w => hi (decide_eq_true ⟨q, Int32.not_lt.mp q2, w⟩)))
    · rw [if_neg q]; exact Or.inl (by decide)
  have step : ∀ (k g : Nat), k < 3 → f_X7_endOfDigits_16 M (g + 1) (nI p) (nI (p + k)) = if dgB L T (p + k) = true then f_X7_endOfDigits_16 M g (nI p) (nI (p + k + 1)) else some (nI (p + k)) := fun k g hk => by
    rw [f_X7_endOfDigits_16, ir_3, if_neg (by rw [le_n (by omega) (by omega)]; omega), ba8 hL h (by omega), xb_n, xb_n, xl_n, ir_1]
    by_cases q : dgB L T (p + k) = true
    · have q' := of_decide_eq_true q
      rw [if_pos q, if_pos q'.1, if_neg (Int32.not_lt.mpr q'.2.1), if_neg (Int32.not_lt.mpr q'.2.2)]
    · rw [if_neg q]
      rcases ndg _ q (by omega) with w | w
      · rw [if_pos w]
      · by_cases w2 : (if p + k < L then T (p + k) else -1) < 48
        · rw [if_pos w2]
        · rw [if_neg w2, if_pos w]
  have last : ∀ g, f_X7_endOfDigits_16 M (g + 1) (nI p) (nI (p + 3)) = some (nI (p + 3)) := fun g => by
    rw [f_X7_endOfDigits_16, ir_3, if_pos (by rw [le_n (by omega) (by omega)]; exact Nat.le_refl _)]
  unfold f_X7_endOfDigits
  rw [ba8 hL h (by omega), xb_n]
  by_cases q0 : p < L ∧ T p = 48
  · rw [if_pos q0.1, if_pos q0.2, ir_1]
    unfold ndT
    rw [if_pos q0]
  · have z : ¬ (if p < L then T p else -1) = 48 := fun w => q0 (by
      by_cases q : p < L
      · rw [if_pos q] at w; exact ⟨q, w⟩
      · rw [if_neg q] at w; exact absurd w (by decide))
    rw [if_neg z, xl_n]
    unfold ndT
    rw [if_neg q0]
    obtain ⟨g, hg⟩ : ∃ g, xFU = g + 1 + 1 + 1 + 1 := ⟨999996, rfl⟩
    rw [hg]
    have s0 : f_X7_endOfDigits_16 M (g + 1 + 1 + 1 + 1) (nI p) (nI p) = if dgB L T p = true then f_X7_endOfDigits_16 M (g + 1 + 1 + 1) (nI p) (nI (p + 1)) else some (nI p) := step 0 (g + 1 + 1 + 1) (by decide)
    have s1 : f_X7_endOfDigits_16 M (g + 1 + 1 + 1) (nI p) (nI (p + 1)) = if dgB L T (p + 1) = true then f_X7_endOfDigits_16 M (g + 1 + 1) (nI p) (nI (p + 2)) else some (nI (p + 1)) := step 1 (g + 1 + 1) (by decide)
    have s2 : f_X7_endOfDigits_16 M (g + 1 + 1) (nI p) (nI (p + 2)) = if dgB L T (p + 2) = true then f_X7_endOfDigits_16 M (g + 1) (nI p) (nI (p + 3)) else some (nI (p + 2)) := step 2 (g + 1) (by decide)
    rw [s0]
    by_cases d0 : dgB L T p = true
    · rw [if_pos d0, if_pos d0, s1]
      by_cases d1 : dgB L T (p + 1) = true
      · rw [if_pos d1, if_pos d1, s2]
        by_cases d2 : dgB L T (p + 2) = true
        · rw [if_pos d2, if_pos d2, last]
        · rw [if_neg d2, if_neg d2]
      · rw [if_neg d1, if_neg d1]
    · rw [if_neg d0, if_neg d0]; rfl
def vlT (T : Nat → Int32) (p : Nat) : Nat → Int32
  | 0 => 0
  | k + 1 => vlT T p k * 10 + T (p + k) - 48
theorem vd8 {L : Nat} {T : Nat → Int32} {M : xM} (hL : L ≤ 80) (h : TxM L T M) {p n : Nat} (hn : n ≤ 3) (hp : p + n ≤ L) : f_X7_valueOfDigits M (nI p) (nI (p + n)) = some (vlT T p n) := by
  have key : ∀ (d i fu : Nat), i + d = n → d < fu → f_X7_valueOfDigits_5 M fu (nI p) (nI (p + n)) (vlT T p i) (nI (p + i)) = some (vlT T p n) := by
    intro d
    induction d with
    | zero =>
      intro i fu e1 e2
      obtain ⟨g, rfl⟩ : ∃ g, fu = g + 1 := ⟨fu - 1, by omega⟩
      have : i = n := by omega
      subst this
      rw [f_X7_valueOfDigits_5, if_pos (by rw [le_n (by omega) (by omega)]; exact Nat.le_refl _)]
    | succ d ih =>
      intro i fu e1 e2
      obtain ⟨g, rfl⟩ : ∃ g, fu = g + 1 := ⟨fu - 1, by omega⟩
      have p1 := ih (i + 1) g (by omega) (by omega)
      rw [f_X7_valueOfDigits_5, if_neg (by rw [le_n (by omega) (by omega)]; omega), ba8 hL h (by omega), xb_n, if_pos (by omega), xl_n, xl_n, ir_1]
      exact p1
  unfold f_X7_valueOfDigits
  rw [xl_n, xl_n]
  exact key n 0 xFU (by omega) (by unfold xFU; omega)
