theorem rd_on : ∀ h : Fin 4, ∀ l : Fin 4, ∀ t : Fin 4, ∀ s : Fin 2, t.val < trN l.val → rdN h.val l.val t.val s.val ≤ onN l.val t.val := by decide +kernel
theorem nI_div {x y : Nat} (hx : x < 1000000) (hy : y < 1000000) : nI x / nI y = nI (x / y) := by
  apply Int32.toInt_inj.mp
  have hq : x / y < 1000000 := Nat.lt_of_le_of_lt (Nat.div_le_self x y) hx
  rw [Int32.toInt_div, nI_toInt (by omega), nI_toInt (by omega), nI_toInt (by omega), ← Int.ofNat_tdiv]
  generalize x / y = z at hq ⊢
  exact Int.bmod_eq_of_le (by omega) (by omega)
theorem cap_rg {vol sp0 sp : Int32} {ps l h s t : Nat} (hv : rg vol 1 100) (h0 : rg sp0 1 380) (h1 : rg sp 1 380) (hps : ps ≤ 24) (hl : l ≤ 3) (hh : h ≤ 3) (hs : s < 2) (ht : t < 4) : rg (capX vol sp0 ps l h sp s t) 0 100 := by
  unfold capX
  by_cases q : t < trN l
  · rw [if_pos q]
    obtain ⟨-, -, o3, o4⟩ := on_fin ⟨l, by omega⟩ ⟨t, ht⟩ q
    have r1 := rd_on ⟨h, by omega⟩ ⟨l, by omega⟩ ⟨t, ht⟩ ⟨s, hs⟩ q
    have o3' : 1 ≤ onN l t := o3
    have o4' : onN l t ≤ 4 := o4
    have r1' : rdN h l t s ≤ onN l t := r1
    generalize onN l t = on at *
    generalize rdN h l t s = rd at *
    obtain ⟨v, v1, v2, rfl⟩ := pos_ex (n := 100) hv (by decide)
    obtain ⟨a, a1, a2, rfl⟩ := pos_ex (n := 380) h0 (by decide)
    obtain ⟨b, b1, b2, rfl⟩ := pos_ex (n := 380) h1 (by decide)
    have emn : xmn (nI b) (nI a) = nI (min a b) := by
      unfold xmn
      by_cases w : a < b
      · rw [if_pos (by rw [lt_n (by omega) (by omega)]; exact w), Nat.min_eq_left (by omega)]
      · rw [if_neg (by rw [lt_n (by omega) (by omega)]; exact w), Nat.min_eq_right (by omega)]
    have emx : xmx (nI b) (nI a) = nI (max a b) := by
      unfold xmx
      by_cases w : b < a
      · rw [if_pos (by rw [lt_n (by omega) (by omega)]; exact w), Nat.max_eq_left (by omega)]
      · rw [if_neg (by rw [lt_n (by omega) (by omega)]; exact w), Nat.max_eq_right (by omega)]
    have hmn : min a b ≤ 380 := by omega
    have hmx : max a b ≤ 380 := by omega
    have hle : min a b ≤ max a b := by omega
    have hmx1 : 1 ≤ max a b := by omega
    generalize min a b = x at *
    generalize max a b = y at *
    have e1 : v * rd ≤ 100 * on := Nat.mul_le_mul v2 r1'
    have e2 : v * rd * x ≤ 100 * on * y := Nat.mul_le_mul e1 hle
    have e3 : 100 * on * y ≤ 400 * 380 := Nat.mul_le_mul (by omega) hmx
    have e4 : on * y ≤ 4 * 380 := Nat.mul_le_mul o4' hmx
    have e5 : 1 ≤ on * y := Nat.mul_pos o3' hmx1
    have e6 : 100 * on * y = 100 * (on * y) := Nat.mul_assoc _ _ _
    rw [emn, emx, pk_mul, pk_mul, pk_mul, nI_div (by omega) (by omega)]
    have e7 : v * rd * x / (on * y) ≤ 100 := by
      apply Nat.div_le_of_le_mul
      rw [Nat.mul_comm (on * y) 100]
      omega
    generalize v * rd * x / (on * y) = z at *
    have es : (nI z - nI ps : Int32).toInt = (z : Int) - (ps : Int) := by
      rw [Int32.toInt_sub, nI_toInt (by omega), nI_toInt (by omega), Int.bmod_eq_of_le (by omega) (by omega)]
    by_cases w : nI z - nI ps ≤ 0
    · rw [if_pos w]; exact ⟨by decide, by decide⟩
    · rw [if_neg w]
      have w2 := Int32.lt_iff_toInt_lt.mp (Int32.not_le.mp w)
      have z0 : (0 : Int32).toInt = 0 := rfl
      unfold rg
      omega
  · rw [if_neg q]; exact ⟨by decide, by decide⟩
theorem sd_pas {V : Nat → Int32} {M Mk : xM} (h : St V M Mk) {r c : Nat} (hr : r < 24) (hc : 5 ≤ c ∧ c < 7) (x : Int32) : St V (xw M 11 (r * 11 + c) x) (xw Mk 11 (r * 11 + c) x) := by
  have same : ∀ a b, M a b = Mk a b → xw M 11 (r * 11 + c) x a b = xw Mk 11 (r * 11 + c) x a b := fun a b e => by
    unfold xw
    split
    · rfl
    · exact e
  exact ⟨rd_pas h.1 hr hc x, ec_set h.2.1 (Or.inl (by decide)), h.2.2.1, fun k hk => by rw [xw_ne (by omega), xw_ne (by omega)]; exact h.2.2.2.1 k hk, fun r2 c2 a1 a2 a3 => same _ _ (h.2.2.2.2.1 r2 c2 a1 a2 a3), fun r2 a1 => same _ _ (h.2.2.2.2.2.1 r2 a1), fun r2 a1 => same _ _ (h.2.2.2.2.2.2.1 r2 a1), fun r2 c2 a1 a2 a3 => same _ _ (h.2.2.2.2.2.2.2 r2 c2 a1 a2 a3)⟩
theorem sd_car {V : Nat → Int32} {M Mk : xM} (h : St V M Mk) {r c : Nat} (hr : r < 8) (hc : 5 ≤ c ∧ c < 7) (x : Int32) : St V (xw M 3 (r * 7 + c) x) (xw Mk 3 (r * 7 + c) x) := by
  have same : ∀ a b, M a b = Mk a b → xw M 3 (r * 7 + c) x a b = xw Mk 3 (r * 7 + c) x a b := fun a b e => by
    unfold xw
    split
    · rfl
    · exact e
  exact ⟨rd_car h.1 hr hc x, ec_set h.2.1 (Or.inl (by decide)), h.2.2.1, fun k hk => by rw [xw_ne (by omega), xw_ne (by omega)]; exact h.2.2.2.1 k hk, fun r2 c2 a1 a2 a3 => same _ _ (h.2.2.2.2.1 r2 c2 a1 a2 a3), fun r2 a1 => same _ _ (h.2.2.2.2.2.1 r2 a1), fun r2 a1 => same _ _ (h.2.2.2.2.2.2.1 r2 a1), fun r2 c2 a1 a2 a3 => same _ _ (h.2.2.2.2.2.2.2 r2 c2 a1 a2 a3)⟩
theorem sd_mac {V : Nat → Int32} {M Mk : xM} (h : St V M Mk) {r : Nat} (hr : r < 4) (x : Int32) : St V (xw M 5 (r * 6 + 5) x) (xw Mk 5 (r * 6 + 5) x) := by
  have same : ∀ a b, M a b = Mk a b → xw M 5 (r * 6 + 5) x a b = xw Mk 5 (r * 6 + 5) x a b := fun a b e => by
    unfold xw
    split
    · rfl
    · exact e
  exact ⟨rd_mac h.1 hr x, ec_set h.2.1 (Or.inl (by decide)), h.2.2.1, fun k hk => by rw [xw_ne (by omega), xw_ne (by omega)]; exact h.2.2.2.1 k hk, fun r2 c2 a1 a2 a3 => same _ _ (h.2.2.2.2.1 r2 c2 a1 a2 a3), fun r2 a1 => same _ _ (h.2.2.2.2.2.1 r2 a1), fun r2 a1 => same _ _ (h.2.2.2.2.2.2.1 r2 a1), fun r2 c2 a1 a2 a3 => same _ _ (h.2.2.2.2.2.2.2 r2 c2 a1 a2 a3)⟩
theorem tk_fin : ∀ b0 b1 b2 b3 : Bool, (((0 ||| tB (b0 = true) 0) ||| tB (b1 = true) 1) ||| tB (b2 = true) 2) ||| tB (b3 = true) 3 = thB (fun t => if t = 0 then b0 else if t = 1 then b1 else if t = 2 then b2 else b3) 4 := by decide +kernel
theorem bk_fin : ∀ l : Fin 4, ∀ s : Fin 2, ∀ b0 b1 b2 b3 : Bool, (b1 = true → 1 < trN l.val) → (b2 = true → 2 < trN l.val) → (b3 = true → 3 < trN l.val) → (f_X3_tracksOfSide (nI l.val) (nI s.val)).map (fun w => thB (fun t => if t = 0 then b0 else if t = 1 then b1 else if t = 2 then b2 else b3) 4 &&& (w ^^^ (-1))) = some ((((0 ||| tB (b0 = true ∧ sdT (nI l.val) 0 ≠ nI s.val) 0) ||| tB (b1 = true ∧ sdT (nI l.val) 1 ≠ nI s.val) 1) ||| tB (b2 = true ∧ sdT (nI l.val) 2 ≠ nI s.val) 2) ||| tB (b3 = true ∧ sdT (nI l.val) 3 ≠ nI s.val) 3) := by decide +kernel

