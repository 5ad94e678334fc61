/-! what is heard, on both sides -/
def thM (f : Nat → Int32) (q : Int32) : Nat → Int32
  | 0 => 0
  | t + 1 => if f t < q then thM f q t else thM f q t ||| ((1 : Int32) <<< ((nI t : Int32) &&& 31))
theorem th8 {M : xM} {c m s : Nat} {sp : Int32} {f : Nat → Int32} (hc : ∀ t, t < 4 → f_X8_captureNow M (nI c) (nI m) sp (nI s) (nI t) = some (f t)) (q : Int32) : f_X8_tracksHeard M (nI c) (nI m) sp (nI s) q = some (thM f q 4) := by
  have key : ∀ (d i fu : Nat), i + d = 4 → d < fu → f_X8_tracksHeard_6 M fu (nI c) (nI m) sp (nI s) q (thM f q i) (nI i) = some (thM f q 4) := by
    intro d
    induction d with
    | zero =>
      intro i fu e1 e2
      obtain ⟨g, rfl⟩ : ∃ g, fu = g + 1 := ⟨fu - 1, by omega⟩
      have : i = 4 := by omega
      subst this
      rw [f_X8_tracksHeard_6, if_pos (by rw [li_4, le_n (by omega) (by omega)]; exact Nat.le_refl _)]
    | succ d ih =>
      intro i fu e1 e2
      obtain ⟨g, rfl⟩ : ∃ g, fu = g + 1 := ⟨fu - 1, by omega⟩
      have p1 := ih (i + 1) g (by omega) (by omega)
      have hs : thM f q (i + 1) = if f i < q then thM f q i else thM f q i ||| ((1 : Int32) <<< ((nI i : Int32) &&& 31)) := rfl
      rw [hs] at p1
      rw [f_X8_tracksHeard_6, if_neg (by rw [li_4, le_n (by omega) (by omega)]; omega), hc i (by omega), xb_n]
      unfold f_X8_tracksHeard_37
      simp only [xl_n, ir_1]
      by_cases w : f i < q
      · rw [if_pos w] at p1 ⊢; exact p1
      · rw [if_neg w] at p1 ⊢; exact p1
  unfold f_X8_tracksHeard
  rw [xl_n, xl_n]
  exact key 4 0 xFU (by omega) (by unfold xFU; omega)
/-- the captures of a pass, by track -/
def cpF (V : Nat → Int32) (c m l h : Nat) (sp : Int32) (s : Nat) : Nat → Int32 := fun t => capX (V (64 + 5 * m + 3)) (V (24 + 5 * c + 1)) (psO V c) l h sp s t
theorem he9 {V : Nat → Int32} (ho : Ok V) {c m l h s : Nat} {sp : Int32} (hc : c < nN V 1) (hm : m < nN V 2) (el : V (24 + 5 * c + 2) = nI l) (eh : V (64 + 5 * m + 2) = nI h) (r1 : rg sp 1 380) (hl : l ≤ 3) (hh : h ≤ 3) (hs : s < 2) (M : xM) (e : M 150 = V) : ∃ M1, f_X9_hears M (nI c) (nI m) sp (nI s) = some (bI (aN (fun t => decide (0 < cpF V c m l h sp s t)) 4 = true), M1) ∧ (∀ k, k ≠ 157 → M1 k = M k) ∧ ∀ t, t < 4 → M1 157 t = cpF V c m l h sp s t := by
  have c1 := ok_c1 ho
  have t4 := trN_4 l
  have ct : f_X9_tracksOf (nI l) = some (nI (trN l)) := (ct_fin ⟨l, by omega⟩).2
  have key : ∀ (d i fu : Nat) (M : xM), i + d = 4 → d < fu → M 150 = V → (∀ t, t < i → M 157 t = cpF V c m l h sp s t) → ∃ M1, f_X9_hears_6 fu M (nI c) (nI m) sp (nI s) (bI (aN (fun t => decide (0 < cpF V c m l h sp s t)) i = true)) (nI i) = some (bI (aN (fun t => decide (0 < cpF V c m l h sp s t)) 4 = true), M1) ∧ (∀ k, k ≠ 157 → M1 k = M k) ∧ ∀ t, t < 4 → M1 157 t = cpF V c m l h sp s t := by
    intro d
    induction d with
    | zero =>
      intro i fu M e1 e2 e3 e4
      obtain ⟨g, rfl⟩ : ∃ g, fu = g + 1 := ⟨fu - 1, by omega⟩
      have : i = 4 := by omega
      subst this
      refine ⟨M, ?_, fun _ _ => rfl, e4⟩
      rw [f_X9_hears_6, if_pos (by rw [li_4, le_n (by omega) (by omega)]; exact Nat.le_refl _), bI_z, xgd_n]
    | succ d ih =>
      intro i fu M e1 e2 e3 e4
      obtain ⟨g, rfl⟩ : ∃ g, fu = g + 1 := ⟨fu - 1, by omega⟩
      have f150 : xw M 157 i (cpF V c m l h sp s i) 150 = V := by rw [xw_ne (by decide)]; exact e3
      obtain ⟨M1, p1, p2, p3⟩ := ih (i + 1) g (xw M 157 i (cpF V c m l h sp s i)) (by omega) (by omega) f150 (fun t ht => by
        by_cases q : t = i
        · rw [q, xw_same]
        · rw [xw_o (by omega)]; exact e4 t (by omega))
      refine ⟨M1, ?_, fun k hk => by rw [p2 k hk, xw_ne hk], p3⟩
      have hsn : aN (fun t => decide (0 < cpF V c m l h sp s t)) (i + 1) = (aN (fun t => decide (0 < cpF V c m l h sp s t)) i || decide (0 < cpF V c m l h sp s i)) := rfl
      rw [hsn] at p1
      have step : f_X9_hears_54 (f_X9_hears_6 g) M (nI c) (nI m) sp (nI s) (bI (aN (fun t => decide (0 < cpF V c m l h sp s t)) i = true)) (nI i) (nI i) (cpF V c m l h sp s i) = some (bI (aN (fun t => decide (0 < cpF V c m l h sp s t)) 4 = true), M1) := by
        unfold f_X9_hears_54 f_X9_hears_70 f_X9_hears_75
        rw [xin_n (by omega) (by omega), xgd_n, xl_n, cl_n (by omega), ifb0, xgd_n, xw_same]
        simp only [xl_n, ir_1]
        by_cases q0 : aN (fun t => decide (0 < cpF V c m l h sp s t)) i = true
        · rw [if_pos q0]
          rw [q0, Bool.true_or] at p1
          exact p1
        · rw [if_neg q0]
          have q0' : aN (fun t => decide (0 < cpF V c m l h sp s t)) i = false := Bool.eq_false_iff.mpr q0
          rw [q0', Bool.false_or] at p1
          by_cases q1 : cpF V c m l h sp s i ≤ 0
          · rw [if_pos q1]
            rw [decide_eq_false (Int32.not_lt.mpr q1)] at p1
            exact p1
          · rw [if_neg q1]
            rw [decide_eq_true (Int32.not_le.mp q1)] at p1
            exact p1
      rw [f_X9_hears_6, if_neg (by rw [li_4, le_n (by omega) (by omega)]; omega), im_5, ia_24, ir_2, xin_n (by omega) (by omega), xgd_n, cl_n (by omega), e3, el, ct, xb_n]
      by_cases q : i < trN l
      · rw [if_neg (by rw [le_n (by omega) (by omega)]; omega), cap9 e3 ho hc hm el eh r1 hl hh hs q, xb_n]
        exact step
      · rw [if_pos (by rw [le_n (by omega) (by omega)]; omega)]
        have z : cpF V c m l h sp s i = 0 := if_neg q
        rw [z] at step
        exact step
  unfold f_X9_hears
  rw [xl_n, xl_n]
  exact key 4 0 xFU M (by omega) (by unfold xFU; omega) e (fun t ht => by omega)
def thB (b : Nat → Bool) : Nat → Int32
  | 0 => 0
  | t + 1 => if b t = true then thB b t ||| ((1 : Int32) <<< ((nI t : Int32) &&& 31)) else thB b t
theorem th_b {f : Nat → Int32} : ∀ n, thM f 1 n = thB (fun t => decide (0 < f t)) n
  | 0 => rfl
  | n + 1 => by
    have e1 : thM f 1 (n + 1) = if f n < 1 then thM f 1 n else thM f 1 n ||| ((1 : Int32) <<< ((nI n : Int32) &&& 31)) := rfl
    have e2 : thB (fun t => decide (0 < f t)) (n + 1) = if decide (0 < f n) = true then thB (fun t => decide (0 < f t)) n ||| ((1 : Int32) <<< ((nI n : Int32) &&& 31)) else thB (fun t => decide (0 < f t)) n := rfl
    rw [e1, e2, th_b n]
    have z0 : (0 : Int32).toInt = 0 := rfl
    have z1 : (1 : Int32).toInt = 1 := rfl
    by_cases q : 0 < f n
    · have := Int32.lt_iff_toInt_lt.mp q
      rw [if_neg (fun w => by have := Int32.lt_iff_toInt_lt.mp w; omega), if_pos (decide_eq_true q)]
    · have := Int32.le_iff_toInt_le.mp (Int32.not_lt.mp q)
      rw [if_pos (Int32.lt_iff_toInt_lt.mpr (by omega)), if_neg (by rw [decide_eq_false q]; decide)]
theorem th_0 (b : Nat → Bool) : (thB b 4 = 0) = (¬ aN b 4 = true) := by
  simp only [thB, aN]
  cases b 0 <;> cases b 1 <;> cases b 2 <;> cases b 3 <;> exact propext (by decide)
theorem pl8 {M : xM} {c : Nat} {sp0 : Int32} (g1 : f_X6_get 2 3 56 M (nI c) 1 = some sp0) (sp : Int32) : f_X8_playsOfPass M (nI c) sp = some (if sp ≤ sp0 then 1 else 2) := by
  unfold f_X8_playsOfPass
  rw [g1, xb_n]
  split <;> rfl
theorem pl9 {V : Nat → Int32} {M : xM} (e : M 150 = V) {c : Nat} (hc : c < 8) (sp : Int32) : f_X9_playsFor M (nI c) sp = some (if sp ≤ V (24 + 5 * c + 1) then 1 else 2) := by
  unfold f_X9_playsFor
  rw [im_5, ia_24, ir_1, xin_n (by omega) (by omega), xgd_n, cl_n (by omega), e]
  split <;> rfl
def plV (V : Nat → Int32) (c : Nat) (sp : Int32) : Int32 := if sp ≤ V (24 + 5 * c + 1) then 1 else 2
/-- why a pass is refused, on both sides; the reference leaves the captures in 157 where it hears -/
theorem rp_e {V : Nat → Int32} (ho : Ok V) (hz : Z916 V) {c m l h s : Nat} {sp : Int32} (hc : c < nN V 1) (hm : m < nN V 2) (el : V (24 + 5 * c + 2) = nI l) (eh : V (64 + 5 * m + 2) = nI h) (r1 : rg sp 1 380) (hl : l ≤ 3) (hh : h ≤ 3) (hs : s < 2) : ∃ v : Int32, (v = 0 ∨ 0 < v) ∧ (∀ M, Vw V M → f_X8_refusalOfPass M (nI c) (nI m) sp (nI s) = some v) ∧ (∀ M, M 150 = V → ∃ M1, f_X9_reasonAgainst M (nI c) (nI m) sp (nI s) = some (v, M1) ∧ (∀ k, k ≠ 157 → M1 k = M k) ∧ (v = 0 → ∀ t, t < 4 → M1 157 t = cpF V c m l h sp s t)) ∧ (v = 0 → nN V 4 < 24) := by
  have c1 := ok_c1 ho
  have c2 := ok_c2 ho
  have c4 := ok_c4 ho
  have r0 := (ho.2.1 c hc).2.1
  have cap : ∀ M, Vw V M → ∀ t, t < 4 → f_X8_captureNow M (nI c) (nI m) sp (nI s) (nI t) = some (cpF V c m l h sp s t) := fun M hv t ht => cap8 (g_car_1 hv hc) ((g_car_2 hv hc).trans (congrArg some el)) ((g_mac_2 hv hm).trans (congrArg some eh)) (g_mac_3 hv hm) (g_car_5 hv hc) r0 r1 hl hh hs ht
  have R : ∀ M, M 150 = V → f_X9_reasonAgainst M (nI c) (nI m) sp (nI s) = if V (24 + 5 * c) = V (64 + 5 * m) then (if plV V c sp ≤ V (24 + 5 * c + 4) then (if tmV V c sp ≤ V (64 + 5 * m + 4) then (xb2 (f_X9_hears M (nI c) (nI m) sp (nI s)) fun v7 M8 => if v7 = 0 then some (4, M8) else xgd (xin 4 916) <| if (M8 150 (4 : Int32).toNatClampNeg) = 24 then some (5, M8) else some (0, M8)) else some (3, M)) else some (2, M)) else some (1, M) := by
    intro M e
    unfold f_X9_reasonAgainst
    rw [im_5, ia_24, xl_n, im_5, ia_64, xl_n, xin_n (by omega) (by omega), xgd_n, xin_n (by omega) (by omega), xgd_n, cl_n (by omega), cl_n (by omega), ir_4, ir_4, xin_n (by omega) (by omega), xgd_n, pl9 e (by omega), xb_n, cl_n (by omega), xin_n (by omega) (by omega), xgd_n, tm9 e (by omega) r1, xb_n, cl_n (by omega), e]
    rfl
  have L : ∀ M, Vw V M → f_X8_refusalOfPass M (nI c) (nI m) sp (nI s) = if V (24 + 5 * c) = V (64 + 5 * m) then (if plV V c sp ≤ V (24 + 5 * c + 4) then (if tmV V c sp ≤ V (64 + 5 * m + 4) then (if aN (fun t => decide (0 < cpF V c m l h sp s t)) 4 = true then (if nN V 4 = 24 then some 5 else some 0) else some 4) else some 3) else some 2) else some 1 := by
    intro M hv
    have hfull := s_full_pas (St_0 hv hz) (ok_n4 ho) c4
    unfold f_X8_refusalOfPass
    rw [sk8 hv hc hm, xb_n, ifb0, g_car_4 hv hc, xb_n, pl8 (g_car_1 hv hc), xb_n, g_mac_4 hv hm, xb_n, tm8 (g_car_1 hv hc) (g_car_3 hv hc) r1, xb_n, th8 (cap M hv), xb_n, th_b, hfull, xb_n, ifb0]
    by_cases q : aN (fun t => decide (0 < cpF V c m l h sp s t)) 4 = true
    · have z : ¬ thB (fun t => decide (0 < cpF V c m l h sp s t)) 4 = 0 := by rw [th_0]; exact fun w => w q
      rw [if_neg z, if_pos q]; rfl
    · have z : thB (fun t => decide (0 < cpF V c m l h sp s t)) 4 = 0 := by rw [th_0]; exact q
      rw [if_pos z, if_neg q]; rfl
  by_cases q1 : V (24 + 5 * c) = V (64 + 5 * m)
  case neg => exact ⟨1, Or.inr (by decide), fun M hv => by rw [L M hv, if_neg q1], fun M e => ⟨M, by rw [R M e, if_neg q1], fun _ _ => rfl, fun z => absurd z (by decide)⟩, fun z => absurd z (by decide)⟩
  by_cases q2 : plV V c sp ≤ V (24 + 5 * c + 4)
  case neg => exact ⟨2, Or.inr (by decide), fun M hv => by rw [L M hv, if_pos q1, if_neg q2], fun M e => ⟨M, by rw [R M e, if_pos q1, if_neg q2], fun _ _ => rfl, fun z => absurd z (by decide)⟩, fun z => absurd z (by decide)⟩
  by_cases q3 : tmV V c sp ≤ V (64 + 5 * m + 4)
  case neg => exact ⟨3, Or.inr (by decide), fun M hv => by rw [L M hv, if_pos q1, if_pos q2, if_neg q3], fun M e => ⟨M, by rw [R M e, if_pos q1, if_pos q2, if_neg q3], fun _ _ => rfl, fun z => absurd z (by decide)⟩, fun z => absurd z (by decide)⟩
  by_cases q4 : aN (fun t => decide (0 < cpF V c m l h sp s t)) 4 = true
  case neg =>
    refine ⟨4, Or.inr (by decide), fun M hv => by rw [L M hv, if_pos q1, if_pos q2, if_pos q3, if_neg q4], fun M e => ?_, fun z => absurd z (by decide)⟩
    obtain ⟨M1, p1, p2, p3⟩ := he9 ho hc hm el eh r1 hl hh hs M e
    exact ⟨M1, by rw [R M e, if_pos q1, if_pos q2, if_pos q3, p1, xb2_n, ifb0, if_neg q4], p2, fun z => absurd z (by decide)⟩
  by_cases q5 : nN V 4 = 24
  · refine ⟨5, Or.inr (by decide), fun M hv => by rw [L M hv, if_pos q1, if_pos q2, if_pos q3, if_pos q4, if_pos q5], fun M e => ?_, fun z => absurd z (by decide)⟩
    obtain ⟨M1, p1, p2, p3⟩ := he9 ho hc hm el eh r1 hl hh hs M e
    have e1 : M1 150 = V := (p2 150 (by decide)).trans e
    refine ⟨M1, ?_, p2, fun z => absurd z (by decide)⟩
    rw [R M e, if_pos q1, if_pos q2, if_pos q3, p1, xb2_n, ifb0, if_pos q4, show xgd (xin 4 916) = xgd true from rfl, xgd_n, ic_4, e1, ok_n4 ho, if_pos (by rw [q5]; rfl)]
  · refine ⟨0, Or.inl rfl, fun M hv => by rw [L M hv, if_pos q1, if_pos q2, if_pos q3, if_pos q4, if_neg q5], fun M e => ?_, fun _ => by omega⟩
    obtain ⟨M1, p1, p2, p3⟩ := he9 ho hc hm el eh r1 hl hh hs M e
    have e1 : M1 150 = V := (p2 150 (by decide)).trans e
    refine ⟨M1, ?_, p2, fun _ => p3⟩
    rw [R M e, if_pos q1, if_pos q2, if_pos q3, p1, xb2_n, ifb0, if_pos q4, show xgd (xin 4 916) = xgd true from rfl, xgd_n, ic_4, e1, ok_n4 ho, if_neg (by rw [li_24, eq_n (by omega) (by decide)]; exact q5)]
