def thM (f : Nat → Int32) (q : Int32) : Nat → Int32
  | 0 => 0
  | t + 1 => if f t < q then thM f q t else thM f q t ||| ((1 : Int32) <<< ((nI t : Int32) &&& 31))
theorem th8 {M : xM} {c m s : Nat} {sp : Int32} {f : Nat → Int32} (hc : ∀ t, t < 4 → f_X8_captureNow M (nI c) (nI m) sp (nI s) (nI t) = some (f t)) (q : Int32) : f_X8_tracksHeard M (nI c) (nI m) sp (nI s) q = some (thM f q 4) := by
  have key : ∀ (d i fu : Nat), i + d = 4 → d < fu → f_X8_tracksHeard_6 M fu (nI c) (nI m) sp (nI s) q (thM f q i) (nI i) = some (thM f q 4) := by
    intro d
    induction d with
    | zero =>
      intro i fu e1 e2
      obtain ⟨g, rfl⟩ : ∃ g, fu = g + 1 := ⟨fu - 1, by omega⟩
      have : i = 4 := by omega
      subst this
      rw [f_X8_tracksHeard_6, if_pos (by rw [li_4, le_n (by omega) (by omega)]; exact Nat.le_refl _)]
    | succ d ih =>
      intro i fu e1 e2
      obtain ⟨g, rfl⟩ : ∃ g, fu = g + 1 := ⟨fu - 1, by omega⟩
      have p1 := ih (i + 1) g (by omega) (by omega)
      have hs : thM f q (i + 1) = if f i < q then thM f q i else thM f q i ||| ((1 : Int32) <<< ((nI i : Int32) &&& 31)) := rfl
      rw [hs] at p1
      rw [f_X8_tracksHeard_6, if_neg (by rw [li_4, le_n (by omega) (by omega)]; omega), hc i (by omega), xb_n]
      unfold f_X8_tracksHeard_37
      simp only [xl_n, ir_1]
      by_cases w : f i < q
      · rw [if_pos w] at p1 ⊢; exact p1
      · rw [if_neg w] at p1 ⊢; exact p1
  unfold f_X8_tracksHeard
  rw [xl_n, xl_n]
  exact key 4 0 xFU (by omega) (by unfold xFU; omega)
def cpF (V : Nat → Int32) (c m l h : Nat) (sp : Int32) (s : Nat) : Nat → Int32 := fun t => capX (V (64 + 5 * m + 3)) (V (24 + 5 * c + 1)) (psO V c) l h sp s t
def thB (b : Nat → Bool) : Nat → Int32
  | 0 => 0
  | t + 1 => if b t = true then thB b t ||| ((1 : Int32) <<< ((nI t : Int32) &&& 31)) else thB b t
theorem th_b {f : Nat → Int32} : ∀ n, thM f 1 n = thB (fun t => decide (0 < f t)) n
  | 0 => rfl
  | n + 1 => by
    have e1 : thM f 1 (n + 1) = if f n < 1 then thM f 1 n else thM f 1 n ||| ((1 : Int32) <<< ((nI n : Int32) &&& 31)) := rfl
    have e2 : thB (fun t => decide (0 < f t)) (n + 1) = if decide (0 < f n) = true then thB (fun t => decide (0 < f t)) n ||| ((1 : Int32) <<< ((nI n : Int32) &&& 31)) else thB (fun t => decide (0 < f t)) n := rfl
    rw [e1, e2, th_b n]
    have z0 : (0 : Int32).toInt = 0 := rfl
    have z1 : (1 : Int32).toInt = 1 := rfl
    by_cases q : 0 < f n
    · have := Int32.lt_iff_toInt_lt.mp q
      rw [if_neg (fun w => by have := Int32.lt_iff_toInt_lt.mp w; omega), if_pos (decide_eq_true q)]
    · have := Int32.le_iff_toInt_le.mp (Int32.not_lt.mp q)
      rw [if_pos (Int32.lt_iff_toInt_lt.mpr (by omega)), if_neg (by rw [decide_eq_false q]; decide)]
theorem th_0 (b : Nat → Bool) : (thB b 4 = 0) = (¬ aN b 4 = true) := by
  simp only [thB, aN]
  cases b 0 <;> cases b 1 <;> cases b 2 <;> cases b 3 <;> exact propext (by decide)
theorem pl8 {M : xM} {c : Nat} {sp0 : Int32} (g1 : f_X6_get 2 3 56 M (nI c) 1 = some sp0) (sp : Int32) : f_X8_playsOfPass M (nI c) sp = some (if sp ≤ sp0 then 1 else 2) := by
  unfold f_X8_playsOfPass
  rw [g1, xb_n]
  split <;> rfl
theorem pl9 {V : Nat → Int32} {M : xM} (e : M 150 = V) {c : Nat} (hc : c < 8) (sp : Int32) : f_X9_playsFor M (nI c) sp = some (if sp ≤ V (24 + 5 * c + 1) then 1 else 2) := by
  unfold f_X9_playsFor
  rw [im_5, ia_24, ir_1, xin_n (by omega) (by omega), xgd_n, cl_n (by omega), e]
  split <;> rfl
def plV (V : Nat → Int32) (c : Nat) (sp : Int32) : Int32 := if sp ≤ V (24 + 5 * c + 1) then 1 else 2
