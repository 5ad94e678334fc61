/-! fewestPasses: what is heard in the reference; the op -/
theorem fp73 {M : xM} {f : Nat → Int32} (hf : ∀ t, t < 4 → M 157 t = f t) (q : Int32) (k29 : xM → Int32 → Int32 → Int32 → Int32 → Option (Int32 × xM)) (a i3 i4 i5 : Int32) : ∀ (d i fu : Nat), i + d = 4 → d < fu → f_X9_fewestPasses_73 k29 fu M a q i3 i4 i5 (thM f q i) (nI i) = f_X9_fewestPasses_116 k29 M a q (i3 ||| ((1 : Int32) <<< ((thM f q 4 : Int32) &&& 31))) i4 i5 := by
  intro d
  induction d with
  | zero =>
    intro i fu e1 e2
    obtain ⟨g, rfl⟩ : ∃ g, fu = g + 1 := ⟨fu - 1, by omega⟩
    have : i = 4 := by omega
    subst this
    rw [f_X9_fewestPasses_73, if_pos (by decide), xl_n]
  | succ d ih =>
    intro i fu e1 e2
    obtain ⟨g, rfl⟩ : ∃ g, fu = g + 1 := ⟨fu - 1, by omega⟩
    have p1 := ih (i + 1) g (by omega) (by omega)
    have hs : thM f q (i + 1) = if f i < q then thM f q i else thM f q i ||| ((1 : Int32) <<< ((nI i : Int32) &&& 31)) := rfl
    rw [hs] at p1
    rw [f_X9_fewestPasses_73, if_neg (by rw [li_4, le_n (by omega) (by omega)]; omega), xin_n (by omega) (by omega), xgd_n, cl_n (by omega), hf i (by omega)]
    unfold f_X9_fewestPasses_100
    by_cases w : f i < q
    · rw [if_pos w] at p1 ⊢
      rw [or_0, xl_n, xl_n, ir_1]
      exact p1
    · rw [if_neg w] at p1 ⊢
      rw [xl_n, xl_n, ir_1]
      exact p1
theorem fp29 {V : Nat → Int32} (ho : Ok V) {c : Nat} (hc : c < nN V 1) (q : Int32) : ∀ (d n g : Nat) (M : xM), n + d = 24 → M 150 = V → RefK M → ∃ M1, f57 M M1 ∧ f_X9_fewestPasses_29 (g + d) M (nI c) q (nI (hS V c q n)) (nI n) = f_X9_fewestPasses_29 g M1 (nI c) q (nI (hS V c q 24)) (nI 24) := by
  intro d
  induction d with
  | zero =>
    intro n g M e1 e hk
    have : n = 24 := by omega
    subst this
    exact ⟨M, fun _ _ => rfl, rfl⟩
  | succ d ih =>
    intro n g M e1 e hk
    have hs : hS V c q (n + 1) = if spB V c n = true then hS V c q n ||| 2 ^ hN (cqF V c n) q else hS V c q n := rfl
    obtain ⟨x, x1, x2, x3⟩ := sp9 e ho hk hc (n := n) (by omega)
    have s1 : f_X9_fewestPasses_29 (g + (d + 1)) M (nI c) q (nI (hS V c q n)) (nI n) = f_X9_fewestPasses_29 (g + d + 1) M (nI c) q (nI (hS V c q n)) (nI n) := rfl
    rw [s1, f_X9_fewestPasses_29, if_neg (by rw [li_24, le_n (by omega) (by omega)]; omega), x1, xb_n, xl_n]
    by_cases w : spB V c n = true
    · obtain ⟨x4, x5⟩ := x2 w
      subst x4
      have np : ¬ spS V n ≤ 0 := fun w => by
        have := Int32.le_iff_toInt_le.mp w
        have z : (0 : Int32).toInt = 0 := rfl
        have := x5.1
        omega
      have w2 := w
      unfold spB at w2
      rw [Bool.and_eq_true] at w2
      obtain ⟨b, M1, h1, h2, h3⟩ := hq9 e ho hc (of_decide_eq_true w2.1).1 w2.2
      rw [if_pos w] at hs
      obtain ⟨M2, b1, b2⟩ := ih (n + 1) g M1 (by omega) ((h2 150 (by decide)).trans e) (RefK_fr hk (h2 155 (by decide)) (h2 156 (by decide)))
      refine ⟨M2, fun k hk => (b1 k hk).trans (h2 k hk), ?_⟩
      obtain ⟨y1, y2⟩ := hN_e (cqF V c n) q
      rw [if_neg np, d6_n (by omega), m2_n (by omega), h1, xb2_n, xl_n, xl_n]
      refine Eq.trans (fp73 h3 q (f_X9_fewestPasses_29 (g + d)) (nI c) (nI (hS V c q n)) (nI n) (spS V n) 4 0 xFU (by omega) (by unfold xFU; omega)) ?_
      unfold f_X9_fewestPasses_116
      rw [y1, sh_fin ⟨hN (cqF V c n) q, y2⟩, i32_or, xl_n, ir_1]
      rw [hs] at b2
      exact b2
    · rw [if_neg w] at hs
      obtain ⟨M2, b1, b2⟩ := ih (n + 1) g M (by omega) e hk
      refine ⟨M2, b1, ?_⟩
      unfold f_X9_fewestPasses_116
      rw [if_pos (x3 w), xl_n, ir_1]
      rw [hs] at b2
      exact b2
theorem hS_out {V : Nat → Int32} {c k : Nat} {q : Int32} (hk : 6 * nN V 2 ≤ k) : ∀ d, hS V c q (k + d) = hS V c q k
  | 0 => rfl
  | d + 1 => by
    have hs : hS V c q (k + d + 1) = if spB V c (k + d) = true then hS V c q (k + d) ||| 2 ^ hN (cqF V c (k + d)) q else hS V c q (k + d) := rfl
    have : ¬ spB V c (k + d) = true := fun w => by
      unfold spB at w
      rw [Bool.and_eq_true] at w
      have := (of_decide_eq_true w.1).1
      omega
    show hS V c q (k + d + 1) = _
    rw [hs, if_neg this]
    exact hS_out hk d
theorem cvS_i {m t : Nat} : cvS m t = true ↔ ∃ h, h < 16 ∧ m.testBit h = true ∧ sbM t h = true := by
  unfold cvS
  rw [aN_ex]
  constructor
  · rintro ⟨h, h1, h2⟩
    have h3 : (m.testBit h && sbM t h) = true := h2
    rw [Bool.and_eq_true] at h3
    exact ⟨h, h1, h3⟩
  · rintro ⟨h, h1, h2, h3⟩
    exact ⟨h, h1, show (m.testBit h && sbM t h) = true by rw [h2, h3]; rfl⟩
theorem cvB_i {V : Nat → Int32} {c m : Nat} : ∀ n, cvB V c m n = true ↔ ∀ r, r < n → V (84 + 5 * r) = nI c → cvS m (nN V (84 + 5 * r + 1)) = true
  | 0 => ⟨fun _ r hr => by omega, fun _ => rfl⟩
  | n + 1 => by
    have hs : cvB V c m (n + 1) = (cvB V c m n && (decide (¬ V (84 + 5 * n) = nI c) || cvS m (nN V (84 + 5 * n + 1)))) := rfl
    have ih := cvB_i (V := V) (c := c) (m := m) n
    rw [hs, Bool.and_eq_true, Bool.or_eq_true]
    constructor
    · rintro ⟨h1, h2⟩ r hr e
      by_cases z : r = n
      · subst z
        rcases h2 with w | w
        · exact absurd e (of_decide_eq_true w)
        · exact w
      · exact ih.mp h1 r (by omega) e
    · intro h
      refine ⟨ih.mpr (fun r hr => h r (by omega)), ?_⟩
      by_cases e : V (84 + 5 * n) = nI c
      · exact Or.inr (h n (by omega) e)
      · exact Or.inl (decide_eq_true e)
theorem Rw_Fw {V : Nat → Int32} {c u nc : Nat} {v : Int32} {N : Nat → Nat} (h1 : ∀ i, i < nc → ∃ r', r' < nN V 3 ∧ V (84 + 5 * r') = nI c ∧ nN V (84 + 5 * r' + 1) = N i) (h2 : ∀ r', r' < nN V 3 → V (84 + 5 * r') = nI c → ∃ i, i < nc ∧ N i = nN V (84 + 5 * r' + 1)) (hr : Rw V c u v 0) : Fw (fun h => u.testBit h) N nc (2 ^ nc - 1) v := by
  have full : ∀ i, i < nc → (2 ^ nc - 1).testBit i = true := fun i hi => by rw [Nat.testBit_two_pow_sub_one]; exact decide_eq_true hi
  -- a set of sets as a number
  have toN : ∀ A, gdA (fun h => u.testBit h) N nc (2 ^ nc - 1) A → mkS A 16 &&& u = mkS A 16 ∧ cvB V c (mkS A 16) (nN V 3) = true ∧ pc 16 (mkS A 16) = cN A 16 := fun A hA => by
    refine ⟨sub_bit.mpr (fun j hj => ?_), (cvB_i _).mpr (fun r hr e => ?_), cN_congr (fun j hj => ?_)⟩
    · rw [mk_bit, Bool.and_eq_true] at hj
      exact hA.1 j (of_decide_eq_true hj.1) hj.2
    · obtain ⟨i, i1, i2⟩ := h2 r hr e
      obtain ⟨h, y1, y2, y3⟩ := hA.2 i i1 (full i i1)
      exact cvS_i.mpr ⟨h, y1, by rw [mk_bit, decide_eq_true y1, y2]; rfl, by rw [← i2]; exact y3⟩
    · show (mkS A 16).testBit j = A j
      rw [mk_bit, decide_eq_true hj, Bool.true_and]
  rcases hr with ⟨x1, x2⟩ | ⟨m, x1, x2, x3, x4⟩
  · refine Or.inl ⟨x1, fun A hA => ?_⟩
    obtain ⟨y1, y2, _⟩ := toN A hA
    exact x2 _ y1 (Nat.zero_le _) y2
  · refine Or.inr ⟨fun h => m.testBit h, ⟨fun h _ w => sub_bit.mp x1 h w, fun i hi _ => ?_⟩, x3, fun B hB => ?_⟩
    · obtain ⟨r, r1, r2, r3⟩ := h1 i hi
      obtain ⟨h, y1, y2, y3⟩ := cvS_i.mp ((cvB_i _).mp x2 r r1 r2)
      exact ⟨h, y1, y2, by rw [← r3]; exact y3⟩
    · obtain ⟨y1, y2, y3⟩ := toN B hB
      have := x4 _ y1 (Nat.zero_le _) y2
      rw [y3] at this
      exact this
theorem op_fewestPasses {M : xM} (hR : Rl M) (a1 a2 : Int32) : Op2 (fun m => f_X8_fewestPasses m a1 a2) (fun m => f_X9_fewestPasses m a1 a2) M := by
  have hv := Rl_vw hR
  have ho := v_ok hv
  have c1 := ok_c1 ho
  have c2 := ok_c2 ho
  have c3 := ok_c3 ho
  unfold Op2 f_X8_fewestPasses f_X9_fewestPasses
  by_cases hx : xin a1 (nN (M 150) 1) = true
  case neg => exact ⟨-1, M, M, by simp only [has_car hv, xb_n, ifb0, if_neg hx], by simp only [one9_1 rfl ho, xb_n, ifb0, if_neg hx], hR⟩
  obtain ⟨c, hc, rfl⟩ := xin_ex hx (by omega)
  by_cases hb : 1 ≤ a2 ∧ a2 ≤ 100
  case neg => exact ⟨-2, M, M, by simp only [has_car hv, wi_e, xb_n, ifb0, if_pos hx, if_neg hb], by simp only [one9_1 rfl ho, in_e, wi_e, xb_n, ifb0, if_pos hx, if_neg hb], hR⟩
  obtain ⟨l1, l2⟩ := ly_e ho hc
  have fr0 : f44 M (xw (xw M 144 3 0) 144 4 0) := fun k hk => by rw [xw_ne (by omega), xw_ne (by omega)]
  have cN0 : cN (fun _ => false) 16 = 0 := cN_zero (fun _ _ => rfl)
  obtain ⟨v, M1, nc, N, b1, b2, b3, b4, b5⟩ := fp_38 (q := a2) hc c1 c2 c3 l2 l1 (nN (M 150) 3) 0 xFU (xw (xw M 144 3 0) 144 4 0) 0 (fun _ => 0) (by omega) (by unfold xFU; omega) (Vw_f44 hv fr0) ⟨⟨by rw [xw_o (by decide), xw_same]; rfl, fun i hi => by omega⟩, xw_same, by decide, fun i hi => by omega, fun r hr => by omega, fun _ => false, cN0.symm, fun m => ⟨fun w => absurd w Bool.false_ne_true, fun ⟨i, hi, _⟩ => by omega⟩, fun m w => absurd w Bool.false_ne_true⟩
  have fM := f44_t fr0 b2
  have e150 : M1 150 = M 150 := fM 150 (by decide)
  have rk : RefK M1 := RefK_fr hR.2.2.2.1 (fM 155 (by decide)) (fM 156 (by decide))
  obtain ⟨M2, n1, n2⟩ := fp29 ho hc a2 24 0 (999975 + 1) M1 rfl e150 rk
  have u16 : hS (M 150) c a2 24 < 65536 := hS_lt 24
  obtain ⟨v2, p1, p2⟩ := fp129 ho (c := c) (u := hS (M 150) c a2 24) (by omega) u16 a2 (M := M2) ((n1 150 (by decide)).trans e150) xFU (hS (M 150) c a2 24) (-6) (by unfold xFU; omega) (Nat.and_self _) (Or.inl ⟨rfl, fun m y1 y2 => by
    have : m ≤ hS (M 150) c a2 24 := by rw [← y1]; exact Nat.and_le_right
    omega⟩)
  have eH : hS (M 150) c a2 24 = hS (M 150) c a2 (6 * nN (M 150) 2) := by
    have := hS_out (V := M 150) (c := c) (q := a2) (k := 6 * nN (M 150) 2) (Nat.le_refl _) (24 - 6 * nN (M 150) 2)
    rw [← this]
    congr 1
    omega
  have f2 := Rw_Fw b3 b4 p2
  have ev : v = v2 := by
    refine Fw_one b5 ?_
    unfold hH
    rw [← eH]
    exact f2
  subst ev
  have f : ∀ k, (k < 144 ∨ 147 < k) → k ≠ 157 → M2 k = M k := fun k x y => (n1 k y).trans (fM k x)
  refine ⟨v, M1, M2, ?_, ?_, Rl_of hR (fun k hk => f k (by unfold fr at hk; omega) (by unfold fr at hk; omega)) (by rw [f 141 (by decide) (by decide)]) (by rw [f 149 (by decide) (by decide)]) (by rw [f 149 (by decide) (by decide)]) (by rw [f 150 (by decide) (by decide)]; exact Enc_of hR.1 (Lk_same (fun k _ _ => f k (by omega) (by omega)))) (by rw [f 150 (by decide) (by decide)]; exact hR.2.1) (Col_same (fun k _ _ => f k (by omega) (by omega)) hR.2.2.1)⟩
  · show (xb (f_X6_has 2 3 56 M (nI c)) fun v15 => _) = _
    rw [has_car hv, xb_n, ifb0, if_pos hx, wi_e, xb_n, ifb0, if_pos hb]
    unfold f_X0_clear
    rw [xl_n, xl_n, xb_n, xl_n]
    exact b1
  · show (xb (f_X9_isOne M1 1 (nI c)) fun v33 => _) = _
    rw [one9_1 e150 ho, xb_n, ifb0, if_pos hx, in_e, wi_e, xb_n, ifb0, if_pos hb, xl_n, xl_n]
    refine Eq.trans n2 ?_
    rw [f_X9_fewestPasses_29, if_pos (by decide), xl_n, xl_n]
    exact p1
