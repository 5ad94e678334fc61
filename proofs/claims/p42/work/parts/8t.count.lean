/-! counting -/
def sN (f : Nat → Nat) : Nat → Nat
  | 0 => 0
  | n + 1 => sN f n + f n
theorem sN_c {f g : Nat → Nat} : ∀ {n : Nat}, (∀ k, k < n → f k = g k) → sN f n = sN g n
  | 0, _ => rfl
  | n + 1, h => by
    unfold sN
    rw [sN_c (fun k hk => h k (by omega)), h n (by omega)]
theorem sN_0 {f : Nat → Nat} : ∀ {n : Nat}, (∀ k, k < n → f k = 0) → sN f n = 0
  | 0, _ => rfl
  | n + 1, h => by
    unfold sN
    rw [sN_0 (fun k hk => h k (by omega)), h n (by omega)]
theorem sN_add {f g : Nat → Nat} : ∀ n, sN (fun k => f k + g k) n = sN f n + sN g n
  | 0 => rfl
  | n + 1 => by
    unfold sN
    rw [sN_add n]
    omega
theorem sN_one (b : Bool) (a : Nat) : ∀ n, sN (fun p => if (b && decide (a = p)) = true then 1 else 0) n = if (b && decide (a < n)) = true then 1 else 0
  | 0 => by simp [sN]
  | n + 1 => by
    unfold sN
    rw [sN_one b a n]
    cases b with
    | false => simp
    | true =>
      simp only [Bool.true_and, decide_eq_true_eq]
      by_cases h1 : a < n
      · rw [if_pos h1, if_neg (by omega), if_pos (by omega)]
      · by_cases h2 : a = n
        · rw [if_neg h1, if_pos h2, if_pos (by omega)]
        · rw [if_neg h1, if_neg h2, if_neg (by omega)]
theorem sN_cN (q : Nat → Bool) (g : Nat → Nat) (N : Nat) : ∀ n, sN (fun p => cN (fun j => q j && decide (g j = p)) n) N = cN (fun j => q j && decide (g j < N)) n
  | 0 => sN_0 (fun _ _ => rfl)
  | n + 1 => by
    have e : (fun p => cN (fun j => q j && decide (g j = p)) (n + 1)) = fun p => cN (fun j => q j && decide (g j = p)) n + (if (q n && decide (g n = p)) = true then 1 else 0) := rfl
    rw [e, sN_add, sN_cN q g N n, sN_one]
    rfl
theorem cN_mono {p q : Nat → Bool} : ∀ {n : Nat}, (∀ k, k < n → p k = true → q k = true) → cN p n ≤ cN q n
  | 0, _ => Nat.le_refl _
  | n + 1, h => by
    have ih := cN_mono (p := p) (q := q) (n := n) (fun k hk => h k (by omega))
    have hn := h n (by omega)
    unfold cN
    by_cases hp : p n = true
    · rw [if_pos hp, if_pos (hn hp)]; omega
    · rw [if_neg hp]; split <;> omega
theorem cN_lt {p q : Nat → Bool} {j : Nat} (hq : q j = true) (hp : ¬ p j = true) : ∀ {n : Nat}, (∀ k, k < n → p k = true → q k = true) → j < n → cN p n < cN q n
  | 0, _, h => by omega
  | n + 1, h, hj => by
    unfold cN
    by_cases e : j = n
    · subst e
      have := cN_mono (p := p) (q := q) (n := j) (fun k hk => h k (by omega))
      rw [if_neg hp, if_pos hq]; omega
    · have ih := cN_lt hq hp (n := n) (fun k hk => h k (by omega)) (by omega)
      have hn := h n (by omega)
      by_cases hpn : p n = true
      · rw [if_pos hpn, if_pos (hn hpn)]; omega
      · rw [if_neg hpn]; split <;> omega
theorem cN_pos {p : Nat → Bool} : ∀ {n : Nat}, 0 < cN p n → ∃ j, j < n ∧ p j = true
  | 0, h => by unfold cN at h; omega
  | n + 1, h => by
    unfold cN at h
    by_cases hp : p n = true
    · exact ⟨n, by omega, hp⟩
    · rw [if_neg hp] at h
      obtain ⟨j, h1, h2⟩ := cN_pos (p := p) (n := n) (by omega)
      exact ⟨j, by omega, h2⟩
theorem cN_le1 {p : Nat → Bool} : ∀ {n : Nat}, (∀ j k, j < n → k < n → p j = true → p k = true → j = k) → cN p n ≤ 1
  | 0, _ => by unfold cN; omega
  | n + 1, h => by
    have ih := cN_le1 (p := p) (n := n) (fun j k hj hk => h j k (by omega) (by omega))
    unfold cN
    by_cases hp : p n = true
    · rw [if_pos hp]
      have : cN p n = 0 := cN_zero (fun k hk => by
        cases hk2 : p k with
        | false => rfl
        | true => have := h k n (by omega) (by omega) hk2 hp; omega)
      omega
    · rw [if_neg hp]; omega
theorem cN_all {p : Nat → Bool} : ∀ {n : Nat}, (∀ k, k < n → p k = true) → cN p n = n
  | 0, _ => rfl
  | n + 1, h => by
    unfold cN
    rw [cN_all (fun k hk => h k (by omega)), if_pos (h n (by omega))]
theorem sN_le1 {f : Nat → Nat} : ∀ {n : Nat}, (∀ k, k < n → f k ≤ 1) → sN f n ≤ n
  | 0, _ => Nat.le_refl _
  | n + 1, h => by
    have ih := sN_le1 (f := f) (n := n) (fun k hk => h k (by omega))
    have := h n (by omega)
    unfold sN
    omega
theorem sN_lt1 {f : Nat → Nat} {p : Nat} (hp : f p = 0) : ∀ {n : Nat}, (∀ k, k < n → f k ≤ 1) → p < n → sN f n < n
  | 0, _, h => by omega
  | n + 1, h, hn => by
    unfold sN
    by_cases e : p = n
    · subst e
      have := sN_le1 (f := f) (n := p) (fun k hk => h k (by omega))
      omega
    · have := sN_lt1 hp (n := n) (fun k hk => h k (by omega)) (by omega)
      have := h n (by omega)
      omega
/-- four states make all -/
theorem cN_4 {f : Nat → Int32} : ∀ {n : Nat}, (∀ k, k < n → f k = 0 ∨ f k = 1 ∨ f k = 2 ∨ f k = 3) → cN (fun k => decide (f k = 0)) n + cN (fun k => decide (f k = 1)) n + cN (fun k => decide (f k = 2)) n + cN (fun k => decide (f k = 3)) n = n
  | 0, _ => rfl
  | n + 1, h => by
    have ih := cN_4 (f := f) (n := n) (fun k hk => h k (by omega))
    unfold cN
    rcases h n (by omega) with q | q | q | q <;> (rw [q]; simp; omega)
/-! the order of the open requests -/
theorem cb_iff {V : Rw} {a b : Nat} (ho : Ok V) (ha : a < nN V 6) (hb : b < nN V 6) : cbB V a b = true ↔ ((V (756 + 10 * a + 7)).toInt < (V (756 + 10 * b + 7)).toInt ∨ ((V (756 + 10 * a + 7)).toInt = (V (756 + 10 * b + 7)).toInt ∧ ((V (756 + 10 * b + 5)).toInt < (V (756 + 10 * a + 5)).toInt ∨ ((V (756 + 10 * b + 5)).toInt = (V (756 + 10 * a + 5)).toInt ∧ ((V (756 + 10 * b + 6)).toInt < (V (756 + 10 * a + 6)).toInt ∨ ((V (756 + 10 * b + 6)).toInt = (V (756 + 10 * a + 6)).toInt ∧ a < b)))))) := by
  unfold cbB
  rw [decide_eq_true_eq]
  have e : ∀ x y : Int32, (x = y) ↔ x.toInt = y.toInt := fun x y => Int32.toInt_inj.symm
  have l : ∀ x y : Int32, (x ≤ y) ↔ x.toInt ≤ y.toInt := fun x y => Int32.le_iff_toInt_le
  by_cases q1 : V (756 + 10 * a + 7) = V (756 + 10 * b + 7)
  · rw [if_pos q1]
    have k1 := (e _ _).mp q1
    by_cases q2 : V (756 + 10 * a + 5) = V (756 + 10 * b + 5)
    · rw [if_pos q2]
      have k2 := (e _ _).mp q2
      by_cases q3 : V (756 + 10 * a + 6) = V (756 + 10 * b + 6)
      · rw [if_pos q3]
        have k3 := (e _ _).mp q3
        omega
      · rw [if_neg q3]
        have k3 : ¬ (V (756 + 10 * a + 6)).toInt = (V (756 + 10 * b + 6)).toInt := fun z => q3 ((e _ _).mpr z)
        rw [l]
        omega
    · rw [if_neg q2]
      have k2 : ¬ (V (756 + 10 * a + 5)).toInt = (V (756 + 10 * b + 5)).toInt := fun z => q2 ((e _ _).mpr z)
      rw [l]
      omega
  · rw [if_neg q1]
    have k1 : ¬ (V (756 + 10 * a + 7)).toInt = (V (756 + 10 * b + 7)).toInt := fun z => q1 ((e _ _).mpr z)
    rw [l]
    omega
theorem cb_tr {V : Rw} (ho : Ok V) {a b c : Nat} (ha : a < nN V 6) (hb : b < nN V 6) (hc : c < nN V 6) (h1 : cbB V a b = true) (h2 : cbB V b c = true) : cbB V a c = true := by
  rw [cb_iff ho ha hb] at h1
  rw [cb_iff ho hb hc] at h2
  rw [cb_iff ho ha hc]
  omega
theorem cb_to {V : Rw} (ho : Ok V) {a b : Nat} (ha : a < nN V 6) (hb : b < nN V 6) (h : a ≠ b) : cbB V a b = true ∨ cbB V b a = true := by
  rw [cb_iff ho ha hb, cb_iff ho hb ha]
  omega
def opB (V : Rw) (j : Nat) : Bool := decide (V (756 + 10 * j) = 0)
def rkV (V : Rw) (j : Nat) : Nat := cN (ahP V j) (nN V 6)
theorem ah_iff {V : Rw} {b i : Nat} : ahP V b i = true ↔ opB V i = true ∧ cbB V i b = true := by
  unfold ahP opB
  exact Bool.and_eq_true_iff
theorem rk_lt {V : Rw} (ho : Ok V) {a b : Nat} (ha : a < nN V 6) (hb : b < nN V 6) (oa : opB V a = true) (h : cbB V a b = true) : rkV V a < rkV V b := by
  unfold rkV
  refine cN_lt (j := a) (ah_iff.mpr ⟨oa, h⟩) (fun z => ?_) (fun k hk z => ?_) ha
  · have := (ah_iff.mp z).2
    rw [cb_self] at this
    cases this
  · obtain ⟨z1, z2⟩ := ah_iff.mp z
    exact ah_iff.mpr ⟨z1, cb_tr ho hk ha hb z2 h⟩
theorem rk_N {V : Rw} {a : Nat} (ha : a < nN V 6) (oa : opB V a = true) : rkV V a < cN (opB V) (nN V 6) := by
  unfold rkV
  refine cN_lt (j := a) oa (fun z => ?_) (fun k hk z => (ah_iff.mp z).1) ha
  have := (ah_iff.mp z).2
  rw [cb_self] at this
  cases this
theorem rk_inj {V : Rw} (ho : Ok V) {a b : Nat} (ha : a < nN V 6) (hb : b < nN V 6) (oa : opB V a = true) (ob : opB V b = true) (h : rkV V a = rkV V b) : a = b := by
  by_cases e : a = b
  · exact e
  · rcases cb_to ho ha hb e with q | q
    · have := rk_lt ho ha hb oa q; omega
    · have := rk_lt ho hb ha ob q; omega
/-- each place below the number of open requests is taken -/
theorem rk_ex {V : Rw} (ho : Ok V) {p : Nat} (hp : p < cN (opB V) (nN V 6)) : ∃ j, j < nN V 6 ∧ opB V j = true ∧ rkV V j = p := by
  have tot : sN (fun p => cN (fun j => opB V j && decide (rkV V j = p)) (nN V 6)) (cN (opB V) (nN V 6)) = cN (opB V) (nN V 6) := by
    rw [sN_cN]
    refine cN_congr (fun j hj => ?_)
    cases hq : opB V j with
    | false => rfl
    | true => rw [Bool.true_and, decide_eq_true (rk_N hj hq)]
  have le1 : ∀ k, k < cN (opB V) (nN V 6) → cN (fun j => opB V j && decide (rkV V j = k)) (nN V 6) ≤ 1 := fun k hk => by
    refine cN_le1 (fun a b ha hb h1 h2 => ?_)
    obtain ⟨a1, a2⟩ := Bool.and_eq_true_iff.mp h1
    obtain ⟨b1, b2⟩ := Bool.and_eq_true_iff.mp h2
    exact rk_inj ho ha hb a1 b1 ((of_decide_eq_true a2).trans (of_decide_eq_true b2).symm)
  have hpos : 0 < cN (fun j => opB V j && decide (rkV V j = p)) (nN V 6) := by
    rcases Nat.eq_zero_or_pos (cN (fun j => opB V j && decide (rkV V j = p)) (nN V 6)) with z | z
    · have := sN_lt1 (f := fun p => cN (fun j => opB V j && decide (rkV V j = p)) (nN V 6)) z le1 hp
      omega
    · exact z
  obtain ⟨j, h1, h2⟩ := cN_pos hpos
  obtain ⟨a1, a2⟩ := Bool.and_eq_true_iff.mp h2
  exact ⟨j, h1, a1, of_decide_eq_true a2⟩
