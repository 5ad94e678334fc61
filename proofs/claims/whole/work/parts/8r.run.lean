/-! run -/
theorem xb2_eta {x : Option (Int32 × xM)} : (xb2 x fun v M => some (v, M)) = x := by
  cases x with
  | none => rfl
  | some z => obtain ⟨v, M⟩ := z; rw [xb2_n]
theorem num8 {M : xM} {k : Nat} (hk : k < 4) {i : Int32} (h : i = nI k) : f_X7_number M i = some (M 143 k) := by
  subst h
  unfold f_X7_number
  rw [if_neg (nI_pos (by omega)), if_neg (by rw [li_4, le_n (by omega) (by omega)]; omega), xin_n (by omega) (by omega), xgd_n, cl_n (by omega)]
theorem act_at {V : Nat → Int32} (ho : Ok V) (hz : Z916 V) {L : Nat} {T : Nat → Int32} {p : Nat} (g : (txO L T p).1 = true) : ∃ F G, Act F G V ∧ (∀ M, txW L T p (M 143) → f_X8_carryOut M (T p) = F M) ∧ (∀ M, M 149 11 = T p → txW L T p (M 158) → f_X9_doAct M = G M) := by
  by_cases q1 : T p = 97
  · refine ⟨_, _, act_ans ho hz (nvT L T p), fun M w => ?_, fun M k w => ?_⟩
    · unfold f_X8_carryOut
      rw [q1, if_pos rfl, num8 (k := 0) (i := 0) (by decide) rfl, xb_n, xb2_eta, w.1]
    · unfold f_X9_doAct
      rw [k, q1, if_neg (by decide), if_pos rfl, show xin 0 4 = true from by decide, xgd_n, ic_0, xb2_eta, w.1]
  · by_cases q2 : T p = 100
    · refine ⟨_, _, act_days ho hz (nvT L T p), fun M w => ?_, fun M k w => ?_⟩
      · unfold f_X8_carryOut
        rw [q2, if_neg (by decide), if_pos rfl, num8 (k := 0) (i := 0) (by decide) rfl, xb_n, xb2_eta, w.1]
      · unfold f_X9_doAct
        rw [k, q2, if_neg (by decide), if_neg (by decide), show xin 0 4 = true from by decide, xgd_n, ic_0, xb2_eta, w.1]
    · by_cases q3 : T p = 116
      · refine ⟨_, _, act_pass ho hz (nvT L T p) (nvT L T (tx1 L T p).2) (nvT L T (tx2 L T p).2) (nvT L T (tx3 L T p).2), fun M w => ?_, fun M k w => ?_⟩
        · have w2 := w.2 q3
          unfold f_X8_carryOut
          rw [q3, if_neg (by decide), if_neg (by decide), if_pos rfl, num8 (k := 0) (i := 0) (by decide) rfl, xb_n, num8 (k := 1) (i := 1) (by decide) rfl, xb_n, num8 (k := 2) (i := 2) (by decide) rfl, xb_n, num8 (k := 3) (i := 3) (by decide) rfl, xb_n, xb2_eta, w.1, w2.1, w2.2.1, w2.2.2]
        · have w2 := w.2 q3
          unfold f_X9_doAct
          rw [k, q3, if_pos rfl, show xin 0 4 = true from by decide, xgd_n, show xin 1 4 = true from by decide, xgd_n, show xin 2 4 = true from by decide, xgd_n, show xin 3 4 = true from by decide, xgd_n, ic_0, ic_1, ic_2, ic_3, xb2_eta, w.1, w2.1, w2.2.1, w2.2.2]
      · have : txO L T p = (false, p) := by unfold txO; rw [if_neg q1, if_neg q2, if_neg q3]
        rw [this] at g
        exact absurd g Bool.false_ne_true
theorem Vw_f8 {V : Nat → Int32} {M M1 : xM} (h : Vw V M) (f : f8 M M1) : Vw V M1 := ⟨trivial, Enc_of h.2.1 (Lk_same (fun k _ _ => f k (by omega))), Col_same (fun k _ _ => f k (by omega)) h.2.2.1, trivial⟩
def h9 (M M1 : xM) : Prop := (∀ k, k ≠ 149 → k ≠ 150 → k ≠ 157 → k ≠ 158 → M1 k = M k) ∧ (∀ j, j ≠ 10 → j ≠ 11 → M1 149 j = M 149 j)
theorem h9_t {M M1 M2 : xM} (h : h9 M M1) (h2 : h9 M1 M2) : h9 M M2 := ⟨fun k a b c d => (h2.1 k a b c d).trans (h.1 k a b c d), fun j a b => (h2.2 j a b).trans (h.2 j a b)⟩
theorem run_both {L : Nat} {T : Nat → Int32} (hL : L ≤ 80) : ∀ (n p : Nat) (V : Nat → Int32) (M0 : xM), p ≤ L → L < p + n → (gdN L T n p).1 = true → Vw V M0 → TxM L T M0 → Z916 V → ∃ V2 k, Z916 V2 ∧ (∀ (M : xM) (fu i : Nat), Vw V M → TxM L T M → n ≤ fu → ∃ M1, f_X8_run_30 fu M (nI i) (nI p) = some (nI (i + k), M1) ∧ Vw V2 M1 ∧ ∀ j, 18 ≤ j → j ≠ 143 → M1 j = M j) ∧ (∀ (M : xM) (fu i : Nat), RefK M → TxR L T M → M 149 10 = nI p → n < fu → ∃ M1, f_X9_run_23 fu (wV M V) (nI i) 1 = some (nI (i + k), wV M1 V2) ∧ h9 M M1) := by
  intro n
  induction n with
  | zero => intro p V M0 h1 h2; omega
  | succ n ih =>
    intro p V M0 h1 h2 hg hV hX hz
    by_cases q : p < L
    case neg =>
      refine ⟨V, 0, hz, fun M fu i _ h h3 => ?_, fun M fu i _ h hpl h3 => ?_⟩
      · obtain ⟨f, rfl⟩ : ∃ f, fu = f + 1 := ⟨fu - 1, by omega⟩
        refine ⟨M, ?_, by assumption, fun _ _ _ => rfl⟩
        rw [f_X8_run_30, h.1, if_pos (by rw [le_n (by omega) (by omega)]; omega), Nat.add_zero]
      · obtain ⟨f, rfl⟩ : ∃ f, fu = f + 1 := ⟨fu - 1, by omega⟩
        refine ⟨M, ?_, fun _ _ _ _ _ => rfl, fun _ _ _ => rfl⟩
        have e6 : wV M V 149 6 = nI L := h.1
        have e10 : wV M V 149 10 = nI p := hpl
        rw [f_X9_run_23, if_neg (by decide), e6, e10, if_pos (by rw [le_n (by omega) (by omega)]; omega), Nat.add_zero]
    have l := txO_le (T := T) h1
    have g : (txO L T p).1 = true := by
      unfold gdN at hg
      rw [if_pos q] at hg
      by_cases w : (txO L T p).1 = true
      · exact w
      · rw [if_neg w] at hg; exact hg
    have hg' : (gdN L T n (txO L T p).2).1 = true := by
      unfold gdN at hg
      rw [if_pos q, if_pos g] at hg
      exact hg
    have gt := txO_gt g
    have e : enP (txO L T p) = nI (txO L T p).2 := by unfold enP; rw [if_pos g]
    obtain ⟨F, G, ⟨V', v, c1, c2, c3⟩, aF, aG⟩ := act_at (v_ok hV) hz g
    -- one step of the class
    have s8 : ∀ (M : xM) (f i : Nat), Vw V M → TxM L T M → ∃ M2, f_X8_run_30 (f + 1) M (nI i) (nI p) = (if 0 ≤ v then f_X8_run_30 f M2 (nI (i + 1)) (nI (txO L T p).2) else some (nI i, M2)) ∧ Vw V' M2 ∧ TxM L T M2 ∧ ∀ j, 18 ≤ j → j ≠ 143 → M2 j = M j := fun M f i b1 b2 => by
      obtain ⟨M1, a1, a2, a3⟩ := ra8 hL b2 q
      obtain ⟨M2, d1, d2, d3⟩ := c1 M1 (Vw_f8 b1 a2)
      have hb := ba8 hL (TxM_f b2 a2) (p := p) (by omega)
      rw [if_pos q] at hb
      refine ⟨M2, ?_, d2, ⟨by rw [d3 141 (by decide)]; exact (TxM_f b2 a2).1, fun j hj => by rw [d3 142 (by decide)]; exact (TxM_f b2 a2).2 j hj⟩, fun j x y => (d3 j x).trans (a2 j y)⟩
      rw [f_X8_run_30, b2.1, if_neg (by rw [le_n (by omega) (by omega)]; omega), a1, xb2_n, xl_n, e, if_neg (by rw [le_n (by omega) (by omega)]; omega), hb, xb_n, aF M1 (a3 g), d1, xb2_n, xl_n, xl_n, ir_1]
    -- one step of the reference
    have s9 : ∀ (M : xM) (f i : Nat), RefK M → TxR L T M → M 149 10 = nI p → ∃ M2, f_X9_run_23 (f + 1) (wV M V) (nI i) 1 = (if v < 0 then f_X9_run_23 f (wV M2 V') (nI i) 0 else f_X9_run_23 f (wV M2 V') (nI (i + 1)) 1) ∧ RefK M2 ∧ TxR L T M2 ∧ M2 149 10 = nI (txO L T p).2 ∧ h9 M M2 := fun M f i b1 b2 b3 => by
      have b2' : TxR L T (wV M V) := b2
      have b3' : wV M V 149 10 = nI p := b3
      obtain ⟨M1, a1, a2, a3, a4⟩ := ra9 hL b2' q b3'
      have k1 : RefK M1 := RefK_fr b1 ((a2.1 155 (by decide) (by decide)).trans (wV_ne (by decide))) ((a2.1 156 (by decide) (by decide)).trans (wV_ne (by decide)))
      have w1 : M1 = wV M1 V := by
        have : M1 150 = V := (a2.1 150 (by decide) (by decide)).trans wV_150
        rw [← this]; exact wV_id
      obtain ⟨M2, d1, d2⟩ := c2 M1 k1 trivial
      have k2 : RefK M2 := RefK_fr k1 (d2 155 (by decide)) (d2 156 (by decide))
      have x1 := TxR_f b2' a2
      refine ⟨M2, ?_, k2, ⟨by rw [d2 149 (by decide)]; exact x1.1, fun j hj => by rw [d2 154 (by decide)]; exact x1.2 j hj⟩, by rw [d2 149 (by decide)]; exact a3, ?_⟩
      · have e6 := b2'.1
        have e2 := aG M1 (a4 g).1 (a4 g).2
        rw [w1, d1, ← w1] at e2
        rw [f_X9_run_23, if_neg (by decide), e6, b3', if_neg (by rw [le_n (by omega) (by omega)]; omega), a1, xb2_n, e2, xb2_n]
        unfold f_X9_run_55 f_X9_run_66
        by_cases u : v < 0
        · rw [if_pos u, if_pos u, xl_n, if_pos rfl, xl_n, ir_0, Nat.add_zero]
        · rw [if_neg u, if_neg u, xl_n, if_neg (by decide), xl_n, ir_1]
      · refine ⟨fun k x x2 y z => ?_, fun j x y => ?_⟩
        · rw [d2 k y, a2.1 k x z, wV_ne x2]
        · rw [d2 149 (by decide), a2.2 j x y]; rfl
    by_cases u : 0 ≤ v
    · have u' : ¬ v < 0 := Int32.not_lt.mpr u
      obtain ⟨M2, _, m2, m3, _⟩ := s8 M0 0 0 hV hX
      obtain ⟨V2, k, z2, r8, r9⟩ := ih (txO L T p).2 V' M2 l (by omega) hg' m2 m3 c3
      refine ⟨V2, k + 1, z2, fun M fu i b1 b2 h3 => ?_, fun M fu i b1 b2 b3 h3 => ?_⟩
      · obtain ⟨f, rfl⟩ : ∃ f, fu = f + 1 := ⟨fu - 1, by omega⟩
        obtain ⟨N, n1, n2, n3, n4⟩ := s8 M f i b1 b2
        obtain ⟨N2, o1, o2, o3⟩ := r8 N f (i + 1) n2 n3 (by omega)
        refine ⟨N2, ?_, o2, fun j x y => (o3 j x y).trans (n4 j x y)⟩
        rw [n1, if_pos u, o1, show i + 1 + k = i + (k + 1) by omega]
      · obtain ⟨f, rfl⟩ : ∃ f, fu = f + 1 := ⟨fu - 1, by omega⟩
        obtain ⟨N, n1, n2, n3, n4, n5⟩ := s9 M f i b1 b2 b3
        obtain ⟨N2, o1, o2⟩ := r9 N f (i + 1) n2 n3 n4 (by omega)
        refine ⟨N2, ?_, h9_t n5 o2⟩
        rw [n1, if_neg u', o1, show i + 1 + k = i + (k + 1) by omega]
    · have u' : v < 0 := Int32.not_le.mp u
      refine ⟨V', 0, c3, fun M fu i b1 b2 h3 => ?_, fun M fu i b1 b2 b3 h3 => ?_⟩
      · obtain ⟨f, rfl⟩ : ∃ f, fu = f + 1 := ⟨fu - 1, by omega⟩
        obtain ⟨N, n1, n2, n3, n4⟩ := s8 M f i b1 b2
        exact ⟨N, by rw [n1, if_neg u, Nat.add_zero], n2, n4⟩
      · obtain ⟨f, rfl⟩ : ∃ f, fu = f + 1 + 1 := ⟨fu - 2, by omega⟩
        obtain ⟨N, n1, n2, n3, n4, n5⟩ := s9 M (f + 1) i b1 b2 b3
        exact ⟨N, by rw [n1, if_pos u', f_X9_run_23, if_pos rfl, Nat.add_zero], n5⟩
theorem op_run {M : xM} (hR : Rl M) : Op2 f_X8_run f_X9_run M := by
  obtain ⟨L, l1, l2, l3, l4⟩ := hR.2.2.2.2.2.2
  obtain ⟨T, hT⟩ : ∃ T, T = M 142 := ⟨_, rfl⟩
  have hx : TxM L T M := ⟨l2, fun _ _ => by rw [hT]⟩
  obtain ⟨M1, a1, a2⟩ := fau8 l1 hx
  have hR1 := Rl_8 hR a2
  have l4' : ∀ j, j < L → M 154 j = T j := fun j hj => by rw [hT]; exact (l4 j hj).1
  unfold Op2 f_X8_run f_X9_run
  by_cases g : (gdT L T).1 = true
  case neg =>
    have hy : TxR L T M1 := ⟨by rw [a2 149 (by decide)]; exact l3, fun j hj => by rw [a2 154 (by decide)]; exact l4' j hj⟩
    obtain ⟨M2, b1, b2, b3⟩ := goo9 l1 hy
    refine ⟨-3, M1, M2, ?_, ?_, Rl_9 hR1 b2⟩
    · have ne : ∀ k : Nat, k < 100000 → ¬ nI k = -6 := fun k hk w => nI_pos (n := k) (by omega) (by rw [w]; decide)
      have le : (gdT L T).2 < 100000 := by
        have : ∀ n p, p ≤ L → (gdN L T n p).2 ≤ L := by
          intro n
          induction n with
          | zero => intro p hp; exact hp
          | succ n ih =>
            intro p hp
            unfold gdN
            by_cases q : p < L
            · rw [if_pos q]
              by_cases w : (txO L T p).1 = true
              · rw [if_pos w]; exact ih _ (txO_le hp)
              · rw [if_neg w]; exact txO_le hp
            · rw [if_neg q]; exact hp
        have := this 81 0 (by omega)
        unfold gdT; omega
      rw [a1, xb2_n, if_neg g, if_neg (ne _ le)]
    · rw [b1, xb2_n, ifb0, if_neg g]
  obtain ⟨Mk, k1, k2, k3, k4⟩ := do_keep hR1
  have hk : TxM L T Mk := ⟨by rw [k3 141 (by decide)]; exact (TxM_f hx a2).1, fun j hj => by rw [k3 142 (by decide)]; exact (TxM_f hx a2).2 j hj⟩
  obtain ⟨V2, k, z2, r8, r9⟩ := run_both l1 81 0 (M1 150) Mk (by omega) (by omega) g k2 hk hR1.2.1
  obtain ⟨M2, c1, c2, c3⟩ := r8 Mk xFU 0 k2 hk (by unfold xFU; omega)
  have s2 : ∀ j, 105 ≤ j → j ≠ 143 → M2 j = M j := fun j x y => by rw [c3 j (by omega) y, k3 j (by omega), a2 j y]
  have hy : TxR L T M2 := ⟨by rw [s2 149 (by decide) (by decide)]; exact l3, fun j hj => by rw [s2 154 (by decide) (by decide)]; exact l4' j hj⟩
  obtain ⟨M3, b1, b2, b3⟩ := goo9 l1 hy
  have k150 : M3 150 = Mk 150 := by rw [b2.1 150 (by decide) (by decide), c3 150 (by decide) (by decide)]
  obtain ⟨Mr, d1, d2, d3, d4⟩ := k4 M3 (fun j x => by rw [b2.1 j (by unfold fr at x; omega) (by unfold fr at x; omega), c3 j x.1 (by unfold fr at x; omega)]) k150 (by rw [b2.1 141 (by decide) (by decide), c3 141 (by decide) (by decide)]) (by rw [b2.2 2 (by decide) (by decide), c3 149 (by decide) (by decide)]) (by rw [b2.2 6 (by decide) (by decide), c3 149 (by decide) (by decide)])
  have x155 : ∀ j, j ≠ 149 → j ≠ 151 → j ≠ 158 → 105 ≤ j → j ≠ 143 → Mr j = M j := fun j x1 x2 x3 x4 x5 => by rw [d2 j x1 x2, b2.1 j x1 x3, s2 j x4 x5]
  obtain ⟨M4, hM4⟩ : ∃ M4, M4 = xw Mr 149 10 0 := ⟨_, rfl⟩
  have m4 : ∀ j, j ≠ 149 → M4 j = Mr j := fun j hj => by rw [hM4]; exact xw_ne hj
  have m49 : ∀ j, j ≠ 10 → M4 149 j = Mr 149 j := fun j hj => by rw [hM4]; exact xw_o (by omega)
  have w4 : M4 = wV M4 (M1 150) := by
    have : M4 150 = M1 150 := by rw [m4 150 (by decide), d2 150 (by decide) (by decide), k150, k3 150 (by decide)]
    rw [← this]; exact wV_id
  have rk : RefK M4 := RefK_fr hR.2.2.2.1 (by rw [m4 155 (by decide)]; exact x155 155 (by decide) (by decide) (by decide) (by decide) (by decide)) (by rw [m4 156 (by decide)]; exact x155 156 (by decide) (by decide) (by decide) (by decide) (by decide))
  have hy4 : TxR L T M4 := ⟨by rw [m49 6 (by decide), d3 6 (by decide), b2.2 6 (by decide) (by decide)]; exact hy.1, fun j hj => by rw [m4 154 (by decide), x155 154 (by decide) (by decide) (by decide) (by decide) (by decide)]; exact l4' j hj⟩
  obtain ⟨M5, e1, e2⟩ := r9 M4 xFU 0 rk hy4 (by rw [hM4]; exact xw_same) (by unfold xFU; omega)
  rw [← w4] at e1
  refine ⟨nI (0 + k), M2, wV M5 V2, ?_, ?_, ?_⟩
  · rw [a1, xb2_n, if_pos g, if_pos rfl, k1, xb_n, xl_n, xl_n]
    exact c1
  · rw [b1, xb2_n, ifb0, if_pos g, d1, xb_n, xl_n, xl_n, xl_n, ← hM4]
    exact e1
  · have f : ∀ j, fr j → wV M5 V2 j = Mr j := fun j x => by
      unfold fr at x
      rw [wV_ne (by omega), e2.1 j (by omega) (by omega) (by omega) (by omega), m4 j (by omega)]
    have lo : ∀ j, 1 ≤ j → j ≤ 17 → wV M5 V2 j = M2 j := fun j x y => by
      rw [wV_ne (by omega), e2.1 j (by omega) (by omega) (by omega) (by omega), m4 j (by omega), d2 j (by omega) (by omega), b2.1 j (by omega) (by omega)]
    have g9' : ∀ j, j ≠ 10 → j ≠ 11 → wV M5 V2 149 j = Mr 149 j := fun j x y => by rw [wV_ne (by decide), e2.2 j x y, m49 j x]
    exact d4 _ f (by rw [wV_ne (by decide), e2.1 141 (by decide) (by decide) (by decide) (by decide), m4 141 (by decide)]) (g9' 2 (by decide) (by decide)) (g9' 6 (by decide) (by decide)) (by rw [wV_150]; exact Enc_of c2.2.1 (Lk_same (fun j x y => lo j x (by omega)))) (by rw [wV_150]; exact z2) (Col_same (fun j x y => lo j x (by omega)) c2.2.2.1)
