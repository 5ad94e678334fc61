/-! the fewest sets that serve, purely -/
def sbM (a b : Nat) : Bool := decide (a &&& b = a)
/-- the needs that a heard set serves -/
def svM (N : Nat → Nat) (nc h : Nat) : Nat := mkS (fun i => sbM (N i) h) nc
theorem sv_bit {N : Nat → Nat} {nc h i : Nat} : (svM N nc h).testBit i = (decide (i < nc) && sbM (N i) h) := mk_bit nc i
def gdA (H : Nat → Bool) (N : Nat → Nat) (nc S : Nat) (A : Nat → Bool) : Prop := (∀ h, h < 16 → A h = true → H h = true) ∧ ∀ i, i < nc → S.testBit i = true → ∃ h, h < 16 ∧ A h = true ∧ sbM (N i) h = true
def Fw (H : Nat → Bool) (N : Nat → Nat) (nc S : Nat) (r : Int32) : Prop := (r = -6 ∧ ∀ A, ¬ gdA H N nc S A) ∨ ∃ A, gdA H N nc S A ∧ r = nI (cN A 16) ∧ ∀ B, gdA H N nc S B → cN A 16 ≤ cN B 16
theorem Fw_0 {H : Nat → Bool} {N : Nat → Nat} {nc : Nat} : Fw H N nc 0 0 := by
  have e : cN (fun _ => false) 16 = 0 := cN_zero (fun _ _ => rfl)
  refine Or.inr ⟨fun _ => false, ⟨fun h _ w => absurd w Bool.false_ne_true, fun i _ w => ?_⟩, by rw [e]; rfl, fun B _ => by rw [e]; exact Nat.zero_le _⟩
  rw [Nat.zero_testBit] at w
  exact absurd w Bool.false_ne_true
theorem Fw_k {H : Nat → Bool} {N : Nat → Nat} {nc S : Nat} {r : Int32} (h : Fw H N nc S r) : r = -6 ∨ ∃ k, k ≤ 16 ∧ r = nI k := by
  rcases h with h | ⟨A, _, h, _⟩
  · exact Or.inl h.1
  · exact Or.inr ⟨cN A 16, cN_le _ _, h⟩
def rsM (S o : Nat) : Nat := S ^^^ (S &&& o)
theorem rs_bit {S o i : Nat} : (rsM S o).testBit i = (S.testBit i && !o.testBit i) := by
  unfold rsM
  rw [Nat.testBit_xor, Nat.testBit_and]
  cases S.testBit i <;> cases o.testBit i <;> rfl
theorem rs_le {S o : Nat} : rsM S o ≤ S := by
  have h : rsM S o &&& S = rsM S o := sub_bit.mpr (fun j hj => by rw [rs_bit, Bool.and_eq_true] at hj; exact hj.1)
  rw [← h]
  exact Nat.and_le_right
theorem rs_lt {S o i : Nat} (h1 : S.testBit i = true) (h2 : o.testBit i = true) : rsM S o < S := by
  have le := rs_le (S := S) (o := o)
  have ne : rsM S o ≠ S := fun w => by
    have e := rs_bit (S := S) (o := o) (i := i)
    rw [w, h1, h2] at e
    exact absurd e (by decide)
  omega
def Bs (D : Nat → Int32) (O : Nat → Nat) (S i : Nat) (b : Int32) : Prop := (b = -6 ∧ ∀ j, j < i → rsM S (O j) < S → D (rsM S (O j)) = -6) ∨ ∃ j k, j < i ∧ k ≤ 16 ∧ rsM S (O j) < S ∧ D (rsM S (O j)) = nI k ∧ b = nI (k + 1) ∧ ∀ j', j' < i → rsM S (O j') < S → ∀ k', k' ≤ 16 → D (rsM S (O j')) = nI k' → k ≤ k'
theorem peel {H : Nat → Bool} {N O : Nat → Nat} {nc oc S : Nat} (hO2 : ∀ h, h < 16 → H h = true → svM N nc h ≠ 0 → ∃ j, j < oc ∧ O j = svM N nc h) (h0 : 0 < S) (hS : S < 2 ^ nc) {A : Nat → Bool} (hA : gdA H N nc S A) : ∃ j h, j < oc ∧ h < 16 ∧ A h = true ∧ rsM S (O j) < S ∧ gdA H N nc (rsM S (O j)) (fun x => A x && decide (x ≠ h)) := by
  obtain ⟨i, hi⟩ : ∃ i, S.testBit i = true := Nat.exists_testBit_of_ne_zero (by omega)
  have hin : i < nc := by
    refine Nat.lt_of_not_le (fun w => ?_)
    have : S < 2 ^ i := Nat.lt_of_lt_of_le hS (Nat.pow_le_pow_right (by decide) w)
    rw [Nat.testBit_lt_two_pow this] at hi
    exact absurd hi Bool.false_ne_true
  obtain ⟨h, h1, h2, h3⟩ := hA.2 i hin hi
  have sb : (svM N nc h).testBit i = true := by rw [sv_bit, decide_eq_true hin, h3]; rfl
  have s0 : svM N nc h ≠ 0 := fun w => by
    rw [w, Nat.zero_testBit] at sb
    exact absurd sb Bool.false_ne_true
  obtain ⟨j, j1, j2⟩ := hO2 h h1 (hA.1 h h1 h2) s0
  refine ⟨j, h, j1, h1, h2, by rw [j2]; exact rs_lt hi sb, fun x hx w => ?_, fun i' hi' w => ?_⟩
  · rw [Bool.and_eq_true] at w
    exact hA.1 x hx w.1
  · rw [rs_bit, Bool.and_eq_true] at w
    obtain ⟨x, x1, x2, x3⟩ := hA.2 i' hi' w.1
    refine ⟨x, x1, ?_, x3⟩
    rw [Bool.and_eq_true]
    refine ⟨x2, decide_eq_true (fun q => ?_)⟩
    have w2 := w.2
    rw [j2, sv_bit, decide_eq_true hi', ← q, x3] at w2
    exact absurd w2 (by decide)
theorem Fw_step {H : Nat → Bool} {N O : Nat → Nat} {nc oc S : Nat} {D : Nat → Int32} {b : Int32} (hO1 : ∀ j, j < oc → ∃ h, h < 16 ∧ H h = true ∧ O j = svM N nc h) (hO2 : ∀ h, h < 16 → H h = true → svM N nc h ≠ 0 → ∃ j, j < oc ∧ O j = svM N nc h) (h0 : 0 < S) (hS : S < 2 ^ nc) (hD : ∀ S', S' < S → Fw H N nc S' (D S')) (hb : Bs D O S oc b) : Fw H N nc S b := by
  have no6 : ∀ k : Nat, k ≤ 100 → ¬ nI k = -6 := fun k hk w => nI_pos (n := k) (by omega) (by rw [w]; decide)
  rcases hb with ⟨b1, b2⟩ | ⟨j, k, j1, k1, j2, j3, b1, b2⟩
  · refine Or.inl ⟨b1, fun A hA => ?_⟩
    obtain ⟨j, h, p1, p2, p3, p4, p5⟩ := peel hO2 h0 hS hA
    have e := b2 j p1 p4
    rcases hD _ p4 with ⟨_, w⟩ | ⟨A', _, w, _⟩
    · exact w _ p5
    · rw [w] at e
      exact no6 _ (Nat.le_trans (cN_le _ _) (by decide)) e
  · obtain ⟨h, h1, h2, h3⟩ := hO1 j j1
    rcases hD _ j2 with ⟨w, _⟩ | ⟨A', a1, a2, a3⟩
    · rw [w] at j3
      exact absurd j3.symm (no6 k (by omega))
    rw [j3] at a2
    have a16 := cN_le A' 16
    rw [eq_n (by omega) (by omega)] at a2
    have good : gdA H N nc S (fun x => A' x || decide (x = h)) := by
      refine ⟨fun x hx w => ?_, fun i hi w => ?_⟩
      · rw [Bool.or_eq_true] at w
        rcases w with w | w
        · exact a1.1 x hx w
        · rw [of_decide_eq_true w]; exact h2
      · by_cases q : (O j).testBit i = true
        · rw [h3, sv_bit, Bool.and_eq_true] at q
          exact ⟨h, h1, by show (A' h || decide (h = h)) = true; rw [decide_eq_true rfl, Bool.or_true], q.2⟩
        · obtain ⟨x, x1, x2, x3⟩ := a1.2 i hi (by rw [rs_bit, w, Bool.eq_false_iff.mpr q]; rfl)
          exact ⟨x, x1, by show (A' x || decide (x = h)) = true; rw [x2, Bool.true_or], x3⟩
    have low : ∀ B, gdA H N nc S B → k + 1 ≤ cN B 16 := fun B hB => by
      obtain ⟨j', h', p1, p2, p3, p4, p5⟩ := peel hO2 h0 hS hB
      have sb := cN_sub (p := B) (k := h') p3 (n := 16)
      rw [if_pos p2] at sb
      rcases hD _ p4 with ⟨_, w⟩ | ⟨A2, _, w, w2⟩
      · exact absurd p5 (w _)
      · have := b2 j' p1 p4 (cN A2 16) (cN_le _ _) w
        have := w2 _ p5
        omega
    have up := cN_add_le (p := A') (k := h) (n := 16)
    rw [if_pos h1] at up
    have lo := low _ good
    have e : cN (fun x => A' x || decide (x = h)) 16 = k + 1 := by omega
    exact Or.inr ⟨_, good, by rw [e]; exact b1, fun B hB => by rw [e]; exact low B hB⟩
/-- one answer alone -/
theorem Fw_one {H : Nat → Bool} {N : Nat → Nat} {nc S : Nat} {r r2 : Int32} (h : Fw H N nc S r) (h2 : Fw H N nc S r2) : r = r2 := by
  rcases h with ⟨a1, a2⟩ | ⟨A, a1, a2, a3⟩
  · rcases h2 with ⟨b1, _⟩ | ⟨B, b1, _, _⟩
    · rw [a1, b1]
    · exact absurd b1 (a2 B)
  · rcases h2 with ⟨_, b2⟩ | ⟨B, b1, b2, b3⟩
    · exact absurd a1 (b2 A)
    · have x := a3 B b1
      have y := b3 A a1
      rw [a2, b2, show cN A 16 = cN B 16 by omega]
