def shS (V : Nat → Int32) (j : Nat) (p a b : Int32) : Int32 := if V (164 + 4 * j + 3) ≤ V 0 then 0 else if V (164 + 4 * j + 2) = p then 0 else xmx 0 (xmn b (V (164 + 4 * j + 1)) - xmx a (V (164 + 4 * j)))
theorem bs8 {V : Nat → Int32} {M : xM} (h : Vw V M) {j : Nat} (hj : j < 64) (p a b : Int32) : f_X8_boundSeconds M (nI j) p a b = some (shS V j p a b) := by
  unfold f_X8_boundSeconds f_X8_isProtected shS
  rw [g_prt_3 h hj, xb_n, v_today h]
  by_cases q : V (164 + 4 * j + 3) ≤ V 0
  · rw [if_pos q, if_pos q, xb_n, if_pos rfl]
  · rw [if_neg q, if_neg q, xb_n, if_neg (by decide), g_prt_2 h hj, xb_n]
    by_cases q2 : V (164 + 4 * j + 2) = p
    · rw [if_pos q2, if_pos q2]
    · rw [if_neg q2, if_neg q2, g_prt_0 h hj, xb_n, xl_n, g_prt_1 h hj, xb_n, xl_n]
theorem xmx_rg {x y : Int32} {a b : Int} (h1 : rg x a b) (h2 : rg y a b) : rg (xmx x y) a b := by
  unfold xmx; split
  · exact h2
  · exact h1
theorem xmn_rg {x y : Int32} {a b : Int} (h1 : rg x a b) (h2 : rg y a b) : rg (xmn x y) a b := by
  unfold xmn; split
  · exact h2
  · exact h1
theorem xmx_le {x y : Int32} : xmx x y = if y ≤ x then x else y := by
  unfold xmx
  by_cases h : x < y
  · rw [if_pos h, if_neg (Int32.not_le.mpr h)]
  · rw [if_neg h, if_pos (Int32.not_lt.mp h)]
theorem xmn_le {x y : Int32} : xmn x y = if x ≤ y then x else y := by
  unfold xmn
  by_cases h : y < x
  · rw [if_pos h, if_neg (Int32.not_le.mpr h)]
  · rw [if_neg h, if_pos (Int32.not_lt.mp h)]
theorem sub_pos {x y : Int32} (h1 : rg x 0 3600) (h2 : rg y 0 3600) : xmx 0 (x - y) = if x ≤ y then 0 else x - y := by
  have e := sub_rg h1 h2 (by decide) (by decide)
  have z : (0 : Int32).toInt = 0 := rfl
  rw [xmx_le]
  by_cases q : x ≤ y
  · have := Int32.le_iff_toInt_le.mp q
    rw [if_pos q, if_pos (Int32.le_iff_toInt_le.mpr (by omega))]
  · have := Int32.lt_iff_toInt_lt.mp (Int32.not_le.mp q)
    rw [if_neg q, if_neg (fun w => by have := Int32.le_iff_toInt_le.mp w; omega)]
theorem bs9 {V : Nat → Int32} {M : xM} (h : M 150 = V) {r k : Nat} (hr : r < 16) (hk : k < 4) (hT : OkT V (4 * r + k)) {a b : Int32} (ha : rg a 0 3600) (hb : rg b 0 3600) (p : Int32) : f_X9_shared M (nI r) (nI k) a b p = some (shS V (4 * r + k) p a b) := by
  unfold f_X9_shared f_X9_shared_36 f_X9_shared_66 shS
  have e : 164 + 16 * r + 4 * k = 164 + 4 * (4 * r + k) := by omega
  rw [sub_pos (xmn_rg hb hT.2.1) (xmx_rg ha hT.1)]
  simp (disch := omega) only [ite_true, IM, IA, IR, IC, IN, nI_add, pk_mul, xin_n, cl_n, xgd_n, ↓xl_n, xb_n, xb2_n, xw_wV, wV_150, h, e]
  generalize 164 + 4 * (4 * r + k) = i
  by_cases q1 : V i ≤ a
  · rw [xmx_le, if_pos q1, if_pos q1]
    by_cases q2 : b ≤ V (i + 1)
    · rw [xmn_le, if_pos q2, if_pos q2]
      by_cases q3 : V (i + 2) = p
      · rw [if_pos q3, if_pos q3]; split <;> rfl
      · rw [if_neg q3, if_neg q3]
        by_cases q4 : V (i + 3) ≤ V 0
        · rw [if_pos q4, if_pos q4]
        · rw [if_neg q4, if_neg q4]
          split <;> rfl
    · rw [xmn_le, if_neg q2, if_neg q2]
      by_cases q3 : V (i + 2) = p
      · rw [if_pos q3, if_pos q3]; split <;> rfl
      · rw [if_neg q3, if_neg q3]
        by_cases q4 : V (i + 3) ≤ V 0
        · rw [if_pos q4, if_pos q4]
        · rw [if_neg q4, if_neg q4]
          split <;> rfl
  · rw [xmx_le, if_neg q1, if_neg q1]
    by_cases q2 : b ≤ V (i + 1)
    · rw [xmn_le, if_pos q2, if_pos q2]
      by_cases q3 : V (i + 2) = p
      · rw [if_pos q3, if_pos q3]; split <;> rfl
      · rw [if_neg q3, if_neg q3]
        by_cases q4 : V (i + 3) ≤ V 0
        · rw [if_pos q4, if_pos q4]
        · rw [if_neg q4, if_neg q4]
          split <;> rfl
    · rw [xmn_le, if_neg q2, if_neg q2]
      by_cases q3 : V (i + 2) = p
      · rw [if_pos q3, if_pos q3]; split <;> rfl
      · rw [if_neg q3, if_neg q3]
        by_cases q4 : V (i + 3) ≤ V 0
        · rw [if_pos q4, if_pos q4]
        · rw [if_neg q4, if_neg q4]
          split <;> rfl
def aN (p : Nat → Bool) : Nat → Bool
  | 0 => false
  | n + 1 => aN p n || p n
theorem aN_up {p : Nat → Bool} {i : Nat} (h : aN p i = true) : ∀ {n : Nat}, i ≤ n → aN p n = true
  | 0, hn => by
    have : i = 0 := by omega
    rw [this] at h; exact h
  | n + 1, hn => by
    by_cases q : i = n + 1
    · rw [← q]; exact h
    · unfold aN; rw [aN_up h (show i ≤ n by omega)]; rfl
def pmP (V : Nat → Int32) (a b u : Int32) (i : Nat) : Bool := decide (V (636 + 5 * i + 4) = 0 ∧ V (636 + 5 * i) = a ∧ V (636 + 5 * i + 1) = b ∧ ¬ V (636 + 5 * i + 2) < u ∧ ¬ V (636 + 5 * i + 3) < V 0)
theorem pm8 {V : Nat → Int32} {M : xM} (h : Vw V M) (a b u : Int32) : f_X8_isPermitted M a b u = some (bI (aN (pmP V a b u) (nN V 5) = true)) := by
  have c5 := ok_c5 (v_ok h)
  have key : ∀ (d i fu : Nat), i + d = nN V 5 → d < fu → aN (pmP V a b u) i = false → f_X8_isPermitted_3 M fu a b u (nI i) = some (bI (aN (pmP V a b u) (nN V 5) = true)) := by
    intro d
    induction d with
    | zero =>
      intro i fu e1 e2 e3
      obtain ⟨g, rfl⟩ : ∃ g, fu = g + 1 := ⟨fu - 1, by omega⟩
      have : i = nN V 5 := by omega
      subst this
      rw [f_X8_isPermitted_3, v_rows_per h, if_pos (by rw [le_n (by omega) (by omega)]; exact Nat.le_refl _), e3]
      rfl
    | succ d ih =>
      intro i fu e1 e2 e3
      obtain ⟨g, rfl⟩ : ∃ g, fu = g + 1 := ⟨fu - 1, by omega⟩
      have hi : i < nN V 5 := by omega
      have hs : aN (pmP V a b u) (i + 1) = (aN (pmP V a b u) i || pmP V a b u i) := rfl
      rw [e3, Bool.false_or] at hs
      rw [f_X8_isPermitted_3, v_rows_per h, if_neg (by rw [le_n (by omega) (by omega)]; omega), g_per_4 h hi, xb_n]
      unfold f_X8_isPermitted_110
      simp only [xl_n, ir_1]
      have no : ¬ (V (636 + 5 * i + 4) = 0 ∧ V (636 + 5 * i) = a ∧ V (636 + 5 * i + 1) = b ∧ ¬ V (636 + 5 * i + 2) < u ∧ ¬ V (636 + 5 * i + 3) < V 0) → f_X8_isPermitted_3 M g a b u (nI (i + 1)) = some (bI (aN (pmP V a b u) (nN V 5) = true)) := fun w => ih (i + 1) g (by omega) (by omega) (by rw [hs]; exact decide_eq_false w)
      by_cases q1 : V (636 + 5 * i + 4) = 0
      · rw [if_pos q1, g_per_0 h hi, xb_n]
        by_cases q2 : V (636 + 5 * i) = a
        · rw [if_pos q2, g_per_1 h hi, xb_n]
          by_cases q3 : V (636 + 5 * i + 1) = b
          · rw [if_pos q3, g_per_2 h hi, xb_n]
            by_cases q4 : V (636 + 5 * i + 2) < u
            · rw [if_pos q4]; exact no (fun w => w.2.2.2.1 q4)
            · rw [if_neg q4, g_per_3 h hi, xb_n, v_today h]
              by_cases q5 : V (636 + 5 * i + 3) < V 0
              · rw [if_pos q5]; exact no (fun w => w.2.2.2.2 q5)
              · rw [if_neg q5]
                have y : pmP V a b u i = true := decide_eq_true ⟨q1, q2, q3, q4, q5⟩
                rw [y] at hs
                rw [aN_up hs (show i + 1 ≤ nN V 5 by omega)]
                rfl
          · rw [if_neg q3]; exact no (fun w => q3 w.2.2.1)
        · rw [if_neg q2]; exact no (fun w => q2 w.2.1)
      · rw [if_neg q1]; exact no (fun w => q1 w.1)
  unfold f_X8_isPermitted
  rw [xl_n]
  exact key (nN V 5) 0 xFU (by omega) (by unfold xFU; omega) rfl
def lkV (V : Nat → Int32) (p : Int32) (r : Nat) (a b u : Int32) : Nat → Int32
  | 0 => 0
  | i + 1 => if ¬ shS V (4 * r + i) p a b ≤ 0 ∧ ¬ aN (pmP V (V (164 + 4 * (4 * r + i) + 2)) p u) (nN V 5) = true then lkV V p r a b u i ||| ((1 : Int32) <<< ((nI i : Int32) &&& 31)) else lkV V p r a b u i
theorem row_e {r k : Nat} : f_X8_rowOfPart (nI r) (nI k) = some (nI (4 * r + k)) := by
  unfold f_X8_rowOfPart
  rw [ix_4, nI_add, Nat.mul_comm]
theorem lk8 {V : Nat → Int32} {M : xM} (h : Vw V M) {r : Nat} (hr : r < nN V 3) (p a b u : Int32) : f_X8_partsLacking M p (nI r) a b u = some (lkV V p r a b u (nN V (84 + 5 * r + 4))) := by
  have ho := v_ok h
  have c3 := ok_c3 ho
  have hR := (ho.2.2.2.1 r hr).2.2.2.2.2
  have key : ∀ (d i fu : Nat), i + d = nN V (84 + 5 * r + 4) → d < fu → f_X8_partsLacking_6 M fu p (nI r) a b u (lkV V p r a b u i) (nI i) = some (lkV V p r a b u (nN V (84 + 5 * r + 4))) := by
    intro d
    induction d with
    | zero =>
      intro i fu e1 e2
      obtain ⟨g, rfl⟩ : ∃ g, fu = g + 1 := ⟨fu - 1, by omega⟩
      have : i = nN V (84 + 5 * r + 4) := by omega
      rw [f_X8_partsLacking_6, g_rec_5 h hr, xb_n, hR.1, ← this, if_pos (by rw [le_n (by omega) (by omega)]; exact Nat.le_refl _)]
    | succ d ih =>
      intro i fu e1 e2
      obtain ⟨g, rfl⟩ : ∃ g, fu = g + 1 := ⟨fu - 1, by omega⟩
      have p1 := ih (i + 1) g (by omega) (by omega)
      rw [f_X8_partsLacking_6, g_rec_5 h hr, xb_n, hR.1, if_neg (by rw [le_n (by omega) (by omega)]; omega), row_e, xb_n, xl_n, bs8 h (by omega), xb_n]
      unfold f_X8_partsLacking_76
      simp only [xl_n, ir_1]
      have hs : lkV V p r a b u (i + 1) = if ¬ shS V (4 * r + i) p a b ≤ 0 ∧ ¬ aN (pmP V (V (164 + 4 * (4 * r + i) + 2)) p u) (nN V 5) = true then lkV V p r a b u i ||| ((1 : Int32) <<< ((nI i : Int32) &&& 31)) else lkV V p r a b u i := rfl
      rw [hs] at p1
      by_cases q1 : shS V (4 * r + i) p a b ≤ 0
      · rw [if_pos q1]
        rw [if_neg (fun w => w.1 q1)] at p1
        exact p1
      · rw [if_neg q1, g_prt_2 h (by omega), xb_n, pm8 h, xb_n, ifb0]
        by_cases q2 : aN (pmP V (V (164 + 4 * (4 * r + i) + 2)) p u) (nN V 5) = true
        · rw [if_pos q2]
          rw [if_neg (fun w => w.2 q2)] at p1
          exact p1
        · rw [if_neg q2]
          rw [if_pos ⟨q1, q2⟩] at p1
          exact p1
  unfold f_X8_partsLacking
  rw [xl_n, xl_n]
  exact key (nN V (84 + 5 * r + 4)) 0 xFU (by omega) (by unfold xFU; omega)
def prI (u : Int32) : Int32 := if u = 0 then 0 else if u = 1 then 1 else 3
theorem pr8 {u : Int32} (h : rg u 0 2) : f_X8_priceOfSecond u = some (prI u) := by
  obtain ⟨k, hk, rfl⟩ := rg_ex (n := 2) h (by decide)
  have : ∀ k : Fin 3, f_X8_priceOfSecond (nI k.val) = some (prI (nI k.val)) := by decide +kernel
  exact this ⟨k, by omega⟩
theorem pr9 (u : Int32) : f_X9_price u = some (prI u) := by
  unfold f_X9_price prI
  split
  · rfl
  · split <;> rfl
def feV (V : Nat → Int32) (p : Int32) (r : Nat) (a b u : Int32) : Nat → Int32
  | 0 => 0
  | i + 1 => feV V p r a b u i + shS V (4 * r + i) p a b * prI u
theorem fp8 {V : Nat → Int32} {M : xM} (h : Vw V M) {j : Nat} (hj : j < 64) (p a b : Int32) {u : Int32} (hu : rg u 0 2) : f_X8_feeOfPart M (nI j) p a b u = some (shS V j p a b * prI u) := by
  unfold f_X8_feeOfPart
  rw [bs8 h hj, xb_n, pr8 hu, xb_n]
theorem fe8 {V : Nat → Int32} {M : xM} (h : Vw V M) {r : Nat} (hr : r < nN V 3) (p a b : Int32) {u : Int32} (hu : rg u 0 2) : f_X8_feeOfExcerpt M p (nI r) a b u = some (feV V p r a b u (nN V (84 + 5 * r + 4))) := by
  have ho := v_ok h
  have c3 := ok_c3 ho
  have hR := (ho.2.2.2.1 r hr).2.2.2.2.2
  have key : ∀ (d i fu : Nat), i + d = nN V (84 + 5 * r + 4) → d < fu → f_X8_feeOfExcerpt_6 M fu p (nI r) a b u (feV V p r a b u i) (nI i) = some (feV V p r a b u (nN V (84 + 5 * r + 4))) := by
    intro d
    induction d with
    | zero =>
      intro i fu e1 e2
      obtain ⟨g, rfl⟩ : ∃ g, fu = g + 1 := ⟨fu - 1, by omega⟩
      have : i = nN V (84 + 5 * r + 4) := by omega
      rw [f_X8_feeOfExcerpt_6, g_rec_5 h hr, xb_n, hR.1, ← this, if_pos (by rw [le_n (by omega) (by omega)]; exact Nat.le_refl _)]
    | succ d ih =>
      intro i fu e1 e2
      obtain ⟨g, rfl⟩ : ∃ g, fu = g + 1 := ⟨fu - 1, by omega⟩
      have p1 := ih (i + 1) g (by omega) (by omega)
      rw [f_X8_feeOfExcerpt_6, g_rec_5 h hr, xb_n, hR.1, if_neg (by rw [le_n (by omega) (by omega)]; omega), row_e, xb_n, fp8 h (by omega) p a b hu, xb_n, xl_n, xl_n, ir_1]
      exact p1
  unfold f_X8_feeOfExcerpt
  rw [xl_n, xl_n]
  exact key (nN V (84 + 5 * r + 4)) 0 xFU (by omega) (by unfold xFU; omega)
