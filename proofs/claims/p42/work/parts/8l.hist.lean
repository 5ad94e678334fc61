/-! p42: the class alone: its state V, its history T (the latest first), its second slot -/
theorem mz {l : List (Nat × Nat × Int32)} {k j : Nat} (h : l.all (fun e => !(e.1 == k)) = true) : mOf l k j = 0 := by
  have : l.find? (fun e => e.1 == k && e.2.1 == j) = none := by
    rw [List.find?_eq_none]
    intro e he q
    have h1 := List.all_eq_true.mp h e he
    simp at h1 q
    exact h1 q.1
  unfold mOf
  rw [this]
theorem li_1 : (1 : Int32) = nI 1 := rfl
theorem li_2 : (2 : Int32) = nI 2 := rfl
abbrev Rw : Type := Nat → Int32
def HsT (M : xM) (T : List Rw) : Prop := (∀ j, j < 5 → EncCol M (hB j)) ∧ ∃ e : Nat, e < 5 ∧ T.length ≤ 5 ∧ M 18 2 = nI T.length ∧ M 18 1 = nI e ∧ ∀ j V, T[j]? = some V → Enc V M (hB ((e + 4 - j) % 5)) ∧ Z916 V
def SlT (M : xM) (S : Option Rw) : Prop := EncCol M 124 ∧ ∀ W, S = some W → M 123 1 = 1 ∧ Enc W M 124 ∧ Z916 W
def Rk (V : Rw) (M : xM) (T : List Rw) (S : Option Rw) : Prop := Vw V M ∧ Z916 V ∧ HsT M T ∧ SlT M S
def psh (V : Rw) (T : List Rw) : List Rw := (V :: T).take 5
theorem HsT_fr {M M2 : xM} {T : List Rw} (h : HsT M T) (f : ∀ k, 18 ≤ k → k ≤ 104 → M2 k = M k) : HsT M2 T := by
  obtain ⟨h1, e, h2, h3, h4, h5, h6⟩ := h
  refine ⟨fun j hj => Col_same (fun k b1 b2 => f k (by unfold hB at b1; omega) (by unfold hB at b2; omega)) (h1 j hj), e, h2, h3, by rw [f 18 (by omega) (by omega)]; exact h4, by rw [f 18 (by omega) (by omega)]; exact h5, fun j V hj => ?_⟩
  obtain ⟨a, b⟩ := h6 j V hj
  have hm : (e + 4 - j) % 5 < 5 := Nat.mod_lt _ (by omega)
  exact ⟨Enc_of a (Lk_same (fun k b1 b2 => f k (by unfold hB at b1; omega) (by unfold hB at b2; omega))), b⟩
theorem SlT_fr {M M2 : xM} {S : Option Rw} (h : SlT M S) (f : ∀ k, 105 ≤ k → k ≤ 140 → M2 k = M k) : SlT M2 S := by
  refine ⟨Col_same (fun k b1 b2 => f k (by omega) (by omega)) h.1, fun W hW => ?_⟩
  obtain ⟨a, b, c⟩ := h.2 W hW
  exact ⟨by rw [f 123 (by omega) (by omega)]; exact a, Enc_of b (Lk_same (fun k b1 b2 => f k (by omega) (by omega))), c⟩
theorem keep_T {V : Rw} {M : xM} {T : List Rw} {S : Option Rw} (hR : Rk V M T S) : ∃ Mk, f_X1_keep M = some Mk ∧ Vw V Mk ∧ (∀ k, k < 18 ∨ 105 ≤ k → Mk k = M k) ∧ HsT Mk (psh V T) ∧ SlT Mk S := by
  obtain ⟨hv, hz, ⟨hc5, e, he, hl, e2, e1, hT⟩, hS⟩ := hR
  obtain ⟨Mk, k1, k2⟩ := keep_e hc5 hv.2.2.1 hl he e1 e2
  have same : ∀ k, k < 18 ∨ 105 ≤ k → Mk k = M k := fun k hk => k2.1 k (by omega)
  obtain ⟨-, a1, a2, a3, a4, a5⟩ := k2
  refine ⟨Mk, k1, ⟨trivial, Enc_of hv.2.1 (Lk_same (fun k _ _ => same k (by omega))), Col_same (fun k _ _ => same k (by omega)) hv.2.2.1, trivial⟩, same, ⟨a5, (e + 1) % 5, Nat.mod_lt _ (by omega), by simp [psh]; omega, ?_, a1, fun j W hj => ?_⟩, SlT_fr hS (fun k _ _ => same k (by omega))⟩
  · rw [a2]; congr 1; simp [psh]; omega
  · have hj5 : j < 5 := by
      rcases Nat.lt_or_ge j 5 with q | q
      · exact q
      · unfold psh at hj; rw [List.getElem?_take, if_neg (by omega)] at hj; cases hj
    unfold psh at hj
    rw [List.getElem?_take, if_pos hj5] at hj
    cases j with
    | zero =>
      simp at hj
      subst hj
      have : ((e + 1) % 5 + 4 - 0) % 5 = e := by omega
      rw [this]
      exact ⟨Enc_of hv.2.1 a3, hz⟩
    | succ j =>
      simp at hj
      obtain ⟨b1, b2⟩ := hT j W hj
      have hjl : j < T.length := (List.getElem?_eq_some_iff.mp hj).1
      have : ((e + 1) % 5 + 4 - (j + 1)) % 5 = (e + 4 - j) % 5 := by omega
      rw [this]
      refine ⟨Enc_of b1 (Lk_same (fun k c1 c2 => a4 k (by unfold hB at c1; omega) ?_)), b2⟩
      have hm : (e + 4 - j) % 5 ≠ e := by omega
      have hm5 : (e + 4 - j) % 5 < 5 := Nat.mod_lt _ (by omega)
      unfold hB at *
      omega
theorem Rk_of {V V2 : Rw} {M Mk : xM} {T : List Rw} {S : Option Rw} (hv : Vw V2 M) (hz : Z916 V2) (f : ∀ k, 18 ≤ k → M k = Mk k) (hT : HsT Mk T) (hS : SlT Mk S) : Rk V2 M T S :=
  ⟨hv, hz, HsT_fr hT (fun k h1 _ => f k h1), SlT_fr hS (fun k h1 _ => f k (by omega))⟩
theorem do8 {V : Rw} {M : xM} {T : List Rw} {S : Option Rw} (hR : Rk V M T S) : ∃ Mk, f_X1_keep M = some Mk ∧ Vw V Mk ∧ ∀ V2 M1, St V2 M1 Mk → EncDer V2 M1 1 → Ok V2 → Rk V2 M1 (psh V T) S := by
  obtain ⟨Mk, k1, k2, k3, k4, k5⟩ := keep_T hR
  exact ⟨Mk, k1, k2, fun V2 M1 hs hd ho => Rk_of (V := V) ⟨trivial, ⟨hs.1, hd, ho⟩, hs.2.1, trivial⟩ hs.2.2.1 hs.2.2.2.1 k4 k5⟩
theorem do82 {V : Rw} {M : xM} {T : List Rw} {S : Option Rw} (hR : Rk V M T S) : ∃ Mk, f_X1_keep M = some Mk ∧ Vw V Mk ∧ ∀ V2 M1, EncRaw V2 M1 1 → EncCol M1 1 → Z916 V2 → (∀ k, 18 ≤ k → M1 k = Mk k) → EncDer V2 M1 1 → Ok V2 → Rk V2 M1 (psh V T) S := by
  obtain ⟨Mk, k1, k2, k3, k4, k5⟩ := keep_T hR
  exact ⟨Mk, k1, k2, fun V2 M1 hs hcol hz2 e hd ho => Rk_of (V := V) ⟨trivial, ⟨hs, hd, ho⟩, hcol, trivial⟩ hz2 e k4 k5⟩
/-- a call that is recorded: an error that changes nothing, or a new state of which P holds -/
def Op8 (b : Int32) (F : Option (Int32 × xM)) (V : Rw) (M : xM) (T : List Rw) (S : Option Rw) (P : Int32 → Rw → Prop) : Prop := (∃ v, F = some (v, M) ∧ v < 0 ∧ ¬ v ≤ b) ∨ (∃ v M1 V2, F = some (v, M1) ∧ Rk V2 M1 (psh V T) S ∧ (¬ v < 0) ∧ P v V2)
