theorem ts_ex : ∀ l : Fin 4, ∀ s : Fin 2, ∃ m : Fin 16, f_X3_tracksOfSide (nI l.val) (nI s.val) = some (nI m.val) := by decide +kernel
theorem sd_fin : ∀ l : Fin 4, ∀ k : Fin 16, f_X3_sideOfSet (nI l.val) (nI k.val) = f_X9_sideOfAll (nI l.val) (nI k.val) ∧ (f_X9_sideOfAll (nI l.val) (nI k.val)).isSome = true := by decide +kernel
theorem sd_0 : ∀ l : Fin 4, f_X9_sideOfAll (nI l.val) (nI 0) = some (-1) := by decide +kernel
theorem and_16 (x : Int32) {m : Nat} (hm : m < 16) : ∃ k, k < 16 ∧ x &&& nI m = nI k := by
  refine ⟨x.toBitVec.toNat &&& m, Nat.lt_of_le_of_lt Nat.and_le_right hm, ?_⟩
  apply Int32.toBitVec_inj.mp
  apply BitVec.eq_of_toNat_eq
  have e : ∀ k, k < 16 → (nI k).toBitVec.toNat = k := fun k hk => by
    show (BitVec.ofNat 32 k).toNat = k
    rw [BitVec.toNat_ofNat]
    exact Nat.mod_eq_of_lt (by omega)
  rw [e _ (Nat.lt_of_le_of_lt Nat.and_le_right hm), Int32.toBitVec_and, BitVec.toNat_and, e m hm]
theorem sub_and {x y : Int32} (h : x &&& (y ^^^ (-1)) = 0) : x = x &&& y := by
  apply Int32.toBitVec_inj.mp
  have h2 := congrArg Int32.toBitVec h
  rw [Int32.toBitVec_and, Int32.toBitVec_xor] at h2
  rw [Int32.toBitVec_and]
  apply BitVec.eq_of_getLsbD_eq
  intro i hi
  have h3 := congrArg (fun b => BitVec.getLsbD b i) h2
  have h4 : (-1 : Int32).toBitVec = BitVec.allOnes 32 := rfl
  have h5 : (0 : Int32).toBitVec = 0#32 := rfl
  rw [h4, h5] at h3
  have h6 : (x.toBitVec &&& (y.toBitVec ^^^ BitVec.allOnes 32)).getLsbD i = (0#32).getLsbD i := h3
  rw [BitVec.getLsbD_and, BitVec.getLsbD_xor, BitVec.getLsbD_allOnes] at h6
  rw [BitVec.getLsbD_and]
  cases hx : x.toBitVec.getLsbD i
  · rfl
  · cases hy : y.toBitVec.getLsbD i
    · rw [hx, hy] at h6
      simp [hi] at h6
    · rfl
theorem side_e {l : Nat} (hl : l ≤ 3) (a : Int32) : ∃ v, f_X3_sideOfSet (nI l) a = some v ∧ f_X9_sideOfAll (nI l) a = some v ∧ (¬ v < 0 → ∃ k, k < 16 ∧ k ≠ 0 ∧ a = nI k) := by
  by_cases q : ∃ k, k < 16 ∧ a = nI k
  · obtain ⟨k, hk, rfl⟩ := q
    have f := sd_fin ⟨l, by omega⟩ ⟨k, hk⟩
    obtain ⟨v, hv⟩ := Option.isSome_iff_exists.mp f.2
    refine ⟨v, f.1.trans hv, hv, fun h => ⟨k, hk, fun k0 => ?_, rfl⟩⟩
    have hv' : f_X9_sideOfAll (nI l) (nI k) = some v := hv
    rw [k0, sd_0 ⟨l, by omega⟩] at hv'
    rw [← Option.some.inj hv'] at h
    exact h (by decide)
  · refine ⟨-1, ?_, ?_, fun h => absurd (by decide) h⟩
    · obtain ⟨m0, t0⟩ := ts_ex ⟨l, by omega⟩ 0
      obtain ⟨m1, t1⟩ := ts_ex ⟨l, by omega⟩ 1
      have t0' : f_X3_tracksOfSide (nI l) 0 = some (nI m0.val) := t0
      have t1' : f_X3_tracksOfSide (nI l) 1 = some (nI m1.val) := t1
      have no : ∀ m : Fin 16, ¬ (a &&& (nI m.val ^^^ (-1))) = 0 := fun m w => q (by
        obtain ⟨k, hk, e⟩ := and_16 a m.isLt
        exact ⟨k, hk, (sub_and w).trans e⟩)
      unfold f_X3_sideOfSet
      rw [if_neg (fun (w : a = 0) => q ⟨0, by decide, w⟩), t0', xb_n, if_neg (no m0), t1', xb_n, if_neg (no m1)]
    · have hw : ∀ M : Int32, ∀ k, k < 16 → M = nI k → ¬ (1 ≤ a ∧ a ≤ M) := fun M k hk hM w => q (by
        rw [hM] at w
        obtain ⟨j, hj, e⟩ := nI_ex (x := a) (n := k) (by omega) ⟨Int32.le_trans (by decide) w.1, w.2⟩
        exact ⟨j, by omega, e⟩)
      have h19 : ∀ M : Int32, (1 ≤ a ∧ a ≤ M → False) → (xb (f_X9_in a 1 M) fun v14 => xl v14 fun v15 => xl (0 : Int32) fun v16 => f_X9_sideOfAll_19 xFU (nI l) a (-1) v15 v16) = some (-1) := by
        intro M hM
        rw [in_e, wi_e, xb_n, xl_n, xl_n]
        obtain ⟨g, hg⟩ : ∃ g, xFU = g + 1 := ⟨999999, rfl⟩
        have hb : bI (1 ≤ a ∧ a ≤ M) = 0 := by unfold bI; exact if_neg hM
        rw [hg, hb, f_X9_sideOfAll_19, if_neg (by decide), if_pos rfl]
        unfold f_X9_sideOfAll_72
        rw [if_pos rfl]
      unfold f_X9_sideOfAll
      have ct : f_X9_tracksOf (nI l) = some (nI (trN l)) := (ct_fin ⟨l, by omega⟩).2
      rw [xl_n, ct, xb_n]
      have hM : ∃ k, k < 16 ∧ ((1 : Int32) <<< ((nI (trN l) : Int32) &&& 31)) - 1 = nI k := by
        rcases (show l = 0 ∨ l = 1 ∨ l = 2 ∨ l = 3 by omega) with rfl | rfl | rfl | rfl
        · exact ⟨1, by decide, by decide⟩
        · exact ⟨3, by decide, by decide⟩
        · exact ⟨15, by decide, by decide⟩
        · exact ⟨15, by decide, by decide⟩
      obtain ⟨k, hk, e⟩ := hM
      exact h19 _ (hw _ k hk e)
def tkP (V : Nat → Int32) (c a b d : Int32) (i : Nat) : Bool := decide (V (84 + 5 * i) = c ∧ ¬ (V (84 + 5 * i + 1) &&& a) = 0 ∧ ¬ V (84 + 5 * i + 3) ≤ b ∧ ¬ d ≤ V (84 + 5 * i + 2))
theorem tk8 {V : Nat → Int32} {M : xM} (h : Vw V M) (c a b d : Int32) : f_X8_isTaken M c a b d = some (bI (aN (tkP V c a b d) (nN V 3) = true)) := by
  have c3 := ok_c3 (v_ok h)
  have key : ∀ (e i fu : Nat), i + e = nN V 3 → e < fu → aN (tkP V c a b d) i = false → f_X8_isTaken_3 M fu c a b d (nI i) = some (bI (aN (tkP V c a b d) (nN V 3) = true)) := by
    intro e
    induction e with
    | zero =>
      intro i fu e1 e2 e3
      obtain ⟨g, rfl⟩ : ∃ g, fu = g + 1 := ⟨fu - 1, by omega⟩
      have : i = nN V 3 := by omega
      subst this
      rw [f_X8_isTaken_3, v_rows_rec h, if_pos (by rw [le_n (by omega) (by omega)]; exact Nat.le_refl _), e3]
      rfl
    | succ e ih =>
      intro i fu e1 e2 e3
      obtain ⟨g, rfl⟩ : ∃ g, fu = g + 1 := ⟨fu - 1, by omega⟩
      have hi : i < nN V 3 := by omega
      have hs : aN (tkP V c a b d) (i + 1) = (aN (tkP V c a b d) i || tkP V c a b d i) := rfl
      rw [e3, Bool.false_or] at hs
      rw [f_X8_isTaken_3, v_rows_rec h, if_neg (by rw [le_n (by omega) (by omega)]; omega), g_rec_0 h hi, xb_n]
      unfold f_X8_isTaken_90
      simp only [xl_n, ir_1]
      have no : ¬ (V (84 + 5 * i) = c ∧ ¬ (V (84 + 5 * i + 1) &&& a) = 0 ∧ ¬ V (84 + 5 * i + 3) ≤ b ∧ ¬ d ≤ V (84 + 5 * i + 2)) → f_X8_isTaken_3 M g c a b d (nI (i + 1)) = some (bI (aN (tkP V c a b d) (nN V 3) = true)) := fun w => ih (i + 1) g (by omega) (by omega) (by rw [hs]; exact decide_eq_false w)
      by_cases q1 : V (84 + 5 * i) = c
      · rw [if_pos q1, g_rec_1 h hi, xb_n]
        by_cases q2 : (V (84 + 5 * i + 1) &&& a) = 0
        · rw [if_pos q2]; exact no (fun w => w.2.1 q2)
        · rw [if_neg q2, g_rec_3 h hi, xb_n]
          by_cases q3 : V (84 + 5 * i + 3) ≤ b
          · rw [if_pos q3]; exact no (fun w => w.2.2.1 q3)
          · rw [if_neg q3, g_rec_2 h hi, xb_n]
            by_cases q4 : d ≤ V (84 + 5 * i + 2)
            · rw [if_pos q4]; exact no (fun w => w.2.2.2 q4)
            · rw [if_neg q4]
              have y : tkP V c a b d i = true := decide_eq_true ⟨q1, q2, q3, q4⟩
              rw [y] at hs
              rw [aN_up hs (show i + 1 ≤ nN V 3 by omega)]
              rfl
      · rw [if_neg q1]; exact no (fun w => q1 w.1)
  unfold f_X8_isTaken
  rw [xl_n]
  exact key (nN V 3) 0 xFU (by omega) (by unfold xFU; omega) rfl
theorem Ok_rc {V V2 : Nat → Int32} (h : Ok V) {n : Nat} (hn : nN V 3 = n) (hn16 : n < 16) (e : ∀ j, j ≠ 3 → (j < 84 + 5 * n ∨ 84 + 5 * n + 4 ≤ j) → V2 j = V j) (h3 : V2 3 = nI (n + 1)) (hR : OkR V2 n) : Ok V2 := by
  obtain ⟨⟨a1, a2, a3, a4, a5, a6, a7, a8, a9, a10, a11, a12, a13⟩, b1, b2, b3, b4, b5, b6, b7, b8, b9, b10⟩ := h
  have y : ∀ j, j ≠ 3 → j < 8 → nN V2 j = nN V j := fun j hj h8 => by unfold nN; rw [e j (by omega) (by omega)]
  have y1 := y 1 (by decide) (by decide)
  have y2 := y 2 (by decide) (by decide)
  have y4 := y 4 (by decide) (by decide)
  have y5 := y 5 (by decide) (by decide)
  have y6 := y 6 (by decide) (by decide)
  have y3 : nN V2 3 = n + 1 := nN_of h3 (by omega)
  refine ⟨⟨by rw [y1, e 1 (by omega) (by omega)]; exact a1, by omega, by rw [y2, e 2 (by omega) (by omega)]; exact a3, by omega, by rw [y3]; exact h3, by omega, by rw [y4, e 4 (by omega) (by omega)]; exact a7, by omega, by rw [y5, e 5 (by omega) (by omega)]; exact a9, by omega, by rw [y6, e 6 (by omega) (by omega)]; exact a11, by omega, by rw [e 0 (by omega) (by omega)]; exact a13⟩, fun q hq => OkC_c (b1 q (by omega)) (fun c hc => e _ (by omega) (by omega)), fun q hq => OkM_c (b2 q (by omega)) (fun c hc => e _ (by omega) (by omega)), fun q hq => ?_, fun q h1 h2 => by rw [e _ (by omega) (by omega)]; exact b4 q (by omega) h2, fun q j hq hj => ?_, fun p hp => OkP_c (b6 p (by omega)) (by omega) (by omega) (fun c hc => e _ (by omega) (by omega)), fun q hq => by rw [e _ (by omega) (by omega)]; exact b7 q (by omega), fun q h1 h2 => by rw [e _ (by omega) (by omega)]; exact b8 q (by omega) h2, fun q hq => OkQ_c (b9 q (by omega)) (by omega) (fun c hc => e _ (by omega) (by omega)), fun q h1 h2 => by rw [e _ (by omega) (by omega)]; exact b10 q (by omega) h2⟩
  · by_cases hqn : q = n
    · rw [hqn]; exact hR
    · exact OkR_c (b3 q (by omega)) (by omega) (fun c hc => e _ (by omega) (by omega))
  · by_cases hqn : q = n
    · have : nN V2 (84 + 5 * q + 4) = 0 := by unfold nN; rw [e _ (by omega) (by omega), b4 q (by omega) (by omega)]; rfl
      omega
    · have w : nN V2 (84 + 5 * q + 4) = nN V (84 + 5 * q + 4) := by unfold nN; rw [e _ (by omega) (by omega)]
      have l4 := (b3 q (by omega)).2.2.2.2.2.2
      exact OkT_c (b5 q j (by omega) (by omega)) (fun c hc => e _ (by omega) (by omega))

