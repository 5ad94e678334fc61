/-! bits of numbers, sets of few -/
theorem nd2 (a b : Nat) : (a &&& b) / 2 = a / 2 &&& b / 2 := Nat.and_div_two
theorem nm2 (a b : Nat) : (a &&& b) % 2 = a % 2 &&& b % 2 := by
  have := Nat.and_mod_two_pow (a := a) (b := b) (n := 1)
  simpa using this
theorem i32_and (a b : Nat) : (nI a &&& nI b : Int32) = nI (a &&& b) := by
  unfold nI
  apply Int32.toBitVec_inj.mp
  rw [Int32.toBitVec_and]
  show BitVec.ofNat 32 a &&& BitVec.ofNat 32 b = BitVec.ofNat 32 (a &&& b)
  apply BitVec.eq_of_getLsbD_eq
  intro i hi
  simp [hi]
theorem i32_or (a b : Nat) : (nI a ||| nI b : Int32) = nI (a ||| b) := by
  unfold nI
  apply Int32.toBitVec_inj.mp
  rw [Int32.toBitVec_or]
  show BitVec.ofNat 32 a ||| BitVec.ofNat 32 b = BitVec.ofNat 32 (a ||| b)
  apply BitVec.eq_of_getLsbD_eq
  intro i hi
  simp [hi]
theorem cN_all {p : Nat → Bool} : ∀ n, (∀ j, j < n → p j = false) ↔ cN p n = 0
  | 0 => ⟨fun _ => rfl, fun _ j hj => by omega⟩
  | n + 1 => by
    have ih := cN_all (p := p) n
    have hs : cN p (n + 1) = cN p n + (if p n = true then 1 else 0) := rfl
    refine ⟨fun h => cN_zero h, fun h j hj => ?_⟩
    rw [hs] at h
    by_cases q : j = n
    · subst q
      cases w : p j with
      | false => rfl
      | true => rw [if_pos w] at h; omega
    · exact ih.mpr (by omega) j (by omega)
theorem cN_mono {p q : Nat → Bool} : ∀ {n : Nat}, (∀ j, j < n → p j = true → q j = true) → cN p n ≤ cN q n
  | 0, _ => Nat.le_refl _
  | n + 1, h => by
    have hs : cN p (n + 1) = cN p n + (if p n = true then 1 else 0) := rfl
    have hq : cN q (n + 1) = cN q n + (if q n = true then 1 else 0) := rfl
    have ih := cN_mono (p := p) (q := q) (n := n) (fun j hj => h j (by omega))
    rw [hs, hq]
    by_cases w : p n = true
    · rw [if_pos w, if_pos (h n (by omega) w)]; omega
    · rw [if_neg w]; omega
/-- one more -/
theorem cN_add {p : Nat → Bool} {k : Nat} (hp : p k = false) : ∀ {n : Nat}, cN (fun x => p x || decide (x = k)) n = cN p n + (if k < n then 1 else 0)
  | 0 => rfl
  | n + 1 => by
    have ih := cN_add (p := p) hp (n := n)
    have hs : cN p (n + 1) = cN p n + (if p n = true then 1 else 0) := rfl
    have hq : cN (fun x => p x || decide (x = k)) (n + 1) = cN (fun x => p x || decide (x = k)) n + (if (p n || decide (n = k)) = true then 1 else 0) := rfl
    rw [hs, hq, ih]
    by_cases w : n = k
    · subst w
      simp [hp]
    · have e : (p n || decide (n = k)) = p n := by rw [decide_eq_false w, Bool.or_false]
      rw [e]
      by_cases z : k < n
      · rw [if_pos z, if_pos (show k < n + 1 by omega)]; omega
      · rw [if_neg z, if_neg (show ¬ k < n + 1 by omega)]; omega
theorem cN_add_le {p : Nat → Bool} {k : Nat} : ∀ {n : Nat}, cN (fun x => p x || decide (x = k)) n ≤ cN p n + (if k < n then 1 else 0)
  | 0 => Nat.le_refl _
  | n + 1 => by
    have ih := cN_add_le (p := p) (k := k) (n := n)
    have hs : cN p (n + 1) = cN p n + (if p n = true then 1 else 0) := rfl
    have hq : cN (fun x => p x || decide (x = k)) (n + 1) = cN (fun x => p x || decide (x = k)) n + (if (p n || decide (n = k)) = true then 1 else 0) := rfl
    rw [hs, hq]
    by_cases w : n = k
    · subst w
      rw [if_neg (by omega)] at ih
      rw [if_pos (show n < n + 1 by omega)]
      split <;> split <;> omega
    · have e : (p n || decide (n = k)) = p n := by rw [decide_eq_false w, Bool.or_false]
      rw [e]
      by_cases z : k < n
      · rw [if_pos z] at ih
        rw [if_pos (show k < n + 1 by omega)]; omega
      · rw [if_neg z] at ih
        rw [if_neg (show ¬ k < n + 1 by omega)]; omega
/-- one less -/
theorem cN_sub {p : Nat → Bool} {k : Nat} (hp : p k = true) : ∀ {n : Nat}, cN (fun x => p x && decide (x ≠ k)) n + (if k < n then 1 else 0) = cN p n
  | 0 => rfl
  | n + 1 => by
    have ih := cN_sub (p := p) hp (n := n)
    have hs : cN p (n + 1) = cN p n + (if p n = true then 1 else 0) := rfl
    have hq : cN (fun x => p x && decide (x ≠ k)) (n + 1) = cN (fun x => p x && decide (x ≠ k)) n + (if (p n && decide (n ≠ k)) = true then 1 else 0) := rfl
    rw [hs, hq]
    by_cases w : n = k
    · subst w
      rw [if_neg (show ¬ n < n by omega)] at ih
      rw [if_pos hp, if_pos (show n < n + 1 by omega), if_neg (by simp)]
      omega
    · have e : (p n && decide (n ≠ k)) = p n := by rw [decide_eq_true w, Bool.and_true]
      rw [e]
      by_cases z : k < n
      · rw [if_pos z] at ih
        rw [if_pos (show k < n + 1 by omega)]; omega
      · rw [if_neg z] at ih
        rw [if_neg (show ¬ k < n + 1 by omega)]; omega
/-- how many bits -/
def pc (n s : Nat) : Nat := cN (fun j => s.testBit j) n
theorem cN_front {p : Nat → Bool} : ∀ {n : Nat}, cN p (n + 1) = (if p 0 = true then 1 else 0) + cN (fun j => p (j + 1)) n
  | 0 => by
    show 0 + (if p 0 = true then 1 else 0) = _
    rw [Nat.zero_add]; rfl
  | n + 1 => by
    have ih := cN_front (p := p) (n := n)
    have hs : cN p (n + 1 + 1) = cN p (n + 1) + (if p (n + 1) = true then 1 else 0) := rfl
    have hq : cN (fun j => p (j + 1)) (n + 1) = cN (fun j => p (j + 1)) n + (if p (n + 1) = true then 1 else 0) := rfl
    rw [hs, hq, ih]; omega
theorem pc_s (n s : Nat) : pc (n + 1) s = (if s % 2 = 1 then 1 else 0) + pc n (s / 2) := by
  unfold pc
  rw [cN_front, Nat.testBit_zero]
  have e : (fun j => s.testBit (j + 1)) = fun j => (s / 2).testBit j := by
    funext j
    exact Nat.testBit_succ s j
  rw [e]
  by_cases q : s % 2 = 1
  · rw [if_pos q, if_pos (decide_eq_true q)]
  · rw [if_neg q, if_neg (by rw [decide_eq_false q]; decide)]
theorem pc_step : ∀ n s, 0 < s → s < 2 ^ n → pc n (s &&& (s - 1)) + 1 = pc n s
  | 0, s, h1, h2 => by
    have : (2 : Nat) ^ 0 = 1 := rfl
    omega
  | n + 1, s, h1, h2 => by
    have hp : (2 : Nat) ^ (n + 1) = 2 * 2 ^ n := by rw [Nat.pow_succ]; omega
    have a1 := nd2 s (s - 1)
    have a2 := nm2 s (s - 1)
    rw [pc_s, pc_s]
    by_cases q : s % 2 = 1
    · have b1 : (s - 1) / 2 = s / 2 := by omega
      have b2 : (s - 1) % 2 = 0 := by omega
      rw [b1, Nat.and_self] at a1
      rw [b2, Nat.and_zero] at a2
      rw [a1, a2, if_pos q, if_neg (by decide)]; omega
    · have b0 : s % 2 = 0 := by omega
      have b1 : (s - 1) / 2 = s / 2 - 1 := by omega
      rw [b1] at a1
      rw [b0, Nat.zero_and] at a2
      have ih := pc_step n (s / 2) (by omega) (by omega)
      rw [a1, a2, if_neg q, if_neg (by decide)]; omega
/-- the next smaller set among those of a set -/
theorem sub_en : ∀ n s u a, s < 2 ^ n → s &&& u = s → a &&& u = a → a < s → a ≤ (s - 1) &&& u
  | 0, s, u, a, h1, _, _, h4 => by
    have : (2 : Nat) ^ 0 = 1 := rfl
    omega
  | n + 1, s, u, a, h1, h2, h3, h4 => by
    have hp : (2 : Nat) ^ (n + 1) = 2 * 2 ^ n := by rw [Nat.pow_succ]; omega
    have a1 := nd2 (s - 1) u
    have a2 := nm2 (s - 1) u
    have s1 := nd2 s u
    have s2 := nm2 s u
    have r1 := nd2 a u
    have r2 := nm2 a u
    rw [h2] at s1 s2
    rw [h3] at r1 r2
    by_cases q : s % 2 = 1
    · have b1 : (s - 1) / 2 = s / 2 := by omega
      rw [b1, ← s1] at a1
      omega
    · have b0 : s % 2 = 0 := by omega
      have b1 : (s - 1) / 2 = s / 2 - 1 := by omega
      have b2 : (s - 1) % 2 = 1 := by omega
      rw [b1] at a1
      rw [b2] at a2
      have ih := sub_en n (s / 2) (u / 2) (a / 2) (by omega) s1.symm r1.symm (by omega)
      rw [← a1] at ih
      have u2 : u % 2 = 0 ∨ u % 2 = 1 := by omega
      rcases u2 with w | w
      · rw [w, Nat.and_zero] at r2
        omega
      · rw [w] at a2
        have : (1 : Nat) &&& 1 = 1 := rfl
        omega
theorem and_le {a b : Nat} : a &&& b ≤ a := Nat.and_le_left
theorem and_sub {a b : Nat} : (a &&& b) &&& b = a &&& b := by rw [Nat.and_assoc, Nat.and_self]
theorem sub_bit {m u : Nat} : m &&& u = m ↔ ∀ j, m.testBit j = true → u.testBit j = true := by
  constructor
  · intro h j hj
    rw [← h, Nat.testBit_and, Bool.and_eq_true] at hj
    exact hj.2
  · intro h
    apply Nat.eq_of_testBit_eq
    intro j
    rw [Nat.testBit_and]
    cases w : m.testBit j with
    | false => rfl
    | true => rw [h j w]; rfl
/-- a set as a number -/
def mkS (A : Nat → Bool) : Nat → Nat
  | 0 => 0
  | n + 1 => if A n = true then mkS A n ||| 2 ^ n else mkS A n
theorem mk_bit {A : Nat → Bool} : ∀ n j, (mkS A n).testBit j = (decide (j < n) && A j)
  | 0, j => by
    show (0 : Nat).testBit j = _
    rw [Nat.zero_testBit, decide_eq_false (by omega)]; rfl
  | n + 1, j => by
    have hs : mkS A (n + 1) = if A n = true then mkS A n ||| 2 ^ n else mkS A n := rfl
    have ih := mk_bit (A := A) n j
    rw [hs]
    by_cases q : j = n
    · subst q
      rw [decide_eq_true (show j < j + 1 by omega), Bool.true_and]
      rw [decide_eq_false (show ¬ j < j by omega), Bool.false_and] at ih
      by_cases w : A j = true
      · rw [if_pos w, Nat.testBit_or, Nat.testBit_two_pow, decide_eq_true rfl, Bool.or_true, w]
      · rw [if_neg w, ih, Bool.eq_false_iff.mpr w]
    · have e : decide (j < n + 1) = decide (j < n) := by
        by_cases z : j < n
        · rw [decide_eq_true z, decide_eq_true (by omega)]
        · rw [decide_eq_false z, decide_eq_false (by omega)]
      rw [e, ← ih]
      by_cases w : A n = true
      · rw [if_pos w, Nat.testBit_or, Nat.testBit_two_pow, decide_eq_false (fun z => q z.symm), Bool.or_false]
      · rw [if_neg w]
theorem mk_lt {A : Nat → Bool} : ∀ n, mkS A n < 2 ^ n
  | 0 => Nat.zero_lt_one
  | n + 1 => by
    have hs : mkS A (n + 1) = if A n = true then mkS A n ||| 2 ^ n else mkS A n := rfl
    have hp : (2 : Nat) ^ (n + 1) = 2 * 2 ^ n := by rw [Nat.pow_succ]; omega
    have ih := mk_lt (A := A) n
    rw [hs]
    by_cases w : A n = true
    · rw [if_pos w]; exact Nat.or_lt_two_pow (by omega) (by omega)
    · rw [if_neg w]; omega
theorem aN_ex {p : Nat → Bool} : ∀ n, aN p n = true ↔ ∃ j, j < n ∧ p j = true
  | 0 => ⟨fun h => absurd h Bool.false_ne_true, fun ⟨j, hj, _⟩ => by omega⟩
  | n + 1 => by
    have hs : aN p (n + 1) = (aN p n || p n) := rfl
    have ih := aN_ex (p := p) n
    rw [hs, Bool.or_eq_true]
    constructor
    · rintro (h | h)
      · obtain ⟨j, h1, h2⟩ := ih.mp h
        exact ⟨j, by omega, h2⟩
      · exact ⟨n, by omega, h⟩
    · rintro ⟨j, h1, h2⟩
      by_cases q : j = n
      · subst q; exact Or.inr h2
      · exact Or.inl (ih.mpr ⟨j, by omega, h2⟩)
/-- ones counts the bits -/
theorem ones_e {n : Nat} (hn : n ≤ 30) : ∀ (d s k fu : Nat) (i : Int32), s ≤ d → s < 2 ^ n → d < fu → f_X9_ones_4 fu i (nI k) (nI s) = some (nI (k + pc n s)) := by
  have h30 : (2 : Nat) ^ n ≤ 2 ^ 30 := Nat.pow_le_pow_right (by decide) hn
  have e30 : (2 : Nat) ^ 30 = 1073741824 := by decide
  intro d
  induction d with
  | zero =>
    intro s k fu i h1 h2 h3
    obtain ⟨g, rfl⟩ : ∃ g, fu = g + 1 := ⟨fu - 1, by omega⟩
    have : s = 0 := by omega
    subst this
    have e : pc n 0 = 0 := cN_zero (fun j _ => Nat.zero_testBit j)
    rw [f_X9_ones_4, if_pos (show nI 0 = (0 : Int32) from rfl), e, Nat.add_zero]
  | succ d ih =>
    intro s k fu i h1 h2 h3
    obtain ⟨g, rfl⟩ : ∃ g, fu = g + 1 := ⟨fu - 1, by omega⟩
    by_cases q : s = 0
    · subst q
      have e : pc n 0 = 0 := cN_zero (fun j _ => Nat.zero_testBit j)
      rw [f_X9_ones_4, if_pos (show nI 0 = (0 : Int32) from rfl), e, Nat.add_zero]
    · obtain ⟨t, rfl⟩ : ∃ t, s = t + 1 := ⟨s - 1, by omega⟩
      have st := pc_step n (t + 1) (by omega) h2
      have le : (t + 1) &&& (t + 1 - 1) ≤ t := Nat.and_le_right
      have p1 := ih ((t + 1) &&& (t + 1 - 1)) (k + 1) g i (by omega) (by omega) (by omega)
      rw [f_X9_ones_4, if_neg (by rw [show (0 : Int32) = nI 0 from rfl, eq_n (by omega) (by omega)]; omega), xl_n, xl_n, ir_1, nI_pred, i32_and]
      rw [Nat.add_sub_cancel] at p1 st
      rw [p1]
      congr 2
      omega
theorem ones_n {s : Nat} (hs : s < 65536) : f_X9_ones (nI s) = some (nI (pc 16 s)) := by
  unfold f_X9_ones
  rw [xl_n, xl_n]
  have := ones_e (n := 16) (by decide) s s 0 xFU (nI s) (Nat.le_refl _) hs (by unfold xFU; omega)
  rw [Nat.zero_add] at this
  exact this
