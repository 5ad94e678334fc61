/-! the passes of a carrier: machine, place of the speed, side -/
def csP (kd mk k : Nat) : Bool := decide (0 < xSpI (3 * kd + k)) && mk.testBit k
theorem cs_fin : ∀ kd : Fin 3, ∀ mk : Fin 8, ∀ k : Fin 3, (xb (f_X2_numberOfSpeed (nI kd.val) (xSpI (3 * kd.val + k.val))) fun v3 => xl v3 fun v4 => if v4 < 0 then some 0 else if (nI mk.val &&& ((1 : Int32) <<< ((v4 : Int32) &&& 31))) = 0 then some 0 else some 1) = some (bI (csP kd.val mk.val k.val = true)) := by decide +kernel
theorem cb_fin : ∀ mk : Fin 8, ∀ k : Fin 3, ((((nI mk.val : Int32) >>> ((nI k.val : Int32) &&& 31)) &&& 1) = 1) = (mk.val.testBit k.val = true) := fun m t => propext (by revert m t; decide +kernel)
theorem xsp_rg : ∀ j : Fin 9, 0 < xSpI j.val → rg (xSpI j.val) 1 380 := by unfold rg; decide +kernel
theorem xsp_le : ∀ j : Fin 9, ¬ 0 < xSpI j.val → xSpI j.val ≤ 0 := by decide +kernel
theorem kd_e {V : Nat → Int32} (ho : Ok V) {m : Nat} (hm : m < nN V 2) : V (64 + 5 * m) = nI (nN V (64 + 5 * m)) ∧ nN V (64 + 5 * m) < 3 := by
  obtain ⟨k, hk, e⟩ := rg_ex (n := 2) (ho.2.2.1 m hm).1 (by decide)
  have e2 : nN V (64 + 5 * m) = k := nN_of e (by omega)
  rw [e2]; exact ⟨e, by omega⟩
theorem mk_e {V : Nat → Int32} (ho : Ok V) {m : Nat} (hm : m < nN V 2) : V (64 + 5 * m + 1) = nI (nN V (64 + 5 * m + 1)) ∧ nN V (64 + 5 * m + 1) < 8 := by
  have h := (ho.2.2.1 m hm).2.1
  obtain ⟨k, hk, e⟩ := rg_ex (n := 7) ⟨Int.le_trans (by decide) h.1, h.2⟩ (by decide)
  have e2 : nN V (64 + 5 * m + 1) = k := nN_of e (by omega)
  rw [e2]; exact ⟨e, by omega⟩
def csV (V : Nat → Int32) (m k : Nat) : Bool := csP (nN V (64 + 5 * m)) (nN V (64 + 5 * m + 1)) k
def spV (V : Nat → Int32) (m k : Nat) : Int32 := xSpI (3 * nN V (64 + 5 * m) + k)
theorem spV_rg {V : Nat → Int32} (ho : Ok V) {m k : Nat} (hm : m < nN V 2) (hk : k < 3) (h : csV V m k = true) : rg (spV V m k) 1 380 := by
  have a := kd_e ho hm
  unfold csV csP at h
  rw [Bool.and_eq_true] at h
  exact xsp_rg ⟨3 * nN V (64 + 5 * m) + k, by omega⟩ (of_decide_eq_true h.1)
theorem so8 {V : Nat → Int32} {M : xM} (hV : Vw V M) {m k : Nat} (hm : m < nN V 2) (hk : k < 3) : f_X6_get 4 5 24 M (nI m) 0 = some (V (64 + 5 * m)) ∧ f_X2_speedOf (V (64 + 5 * m)) (nI k) = some (spV V m k) := by
  have a := kd_e (v_ok hV) hm
  refine ⟨g_mac_0 hV hm, ?_⟩
  rw [a.1]
  exact sp_e ⟨nN V (64 + 5 * m), a.2⟩ ⟨k, hk⟩
theorem cp8 {V : Nat → Int32} {M : xM} (hV : Vw V M) {m k : Nat} (hm : m < nN V 2) (hk : k < 3) : f_X8_canPlay M (nI m) (spV V m k) = some (bI (csV V m k = true)) := by
  have a := kd_e (v_ok hV) hm
  have b := mk_e (v_ok hV) hm
  have h := cs_fin ⟨nN V (64 + 5 * m), a.2⟩ ⟨nN V (64 + 5 * m + 1), b.2⟩ ⟨k, hk⟩
  unfold f_X8_canPlay
  rw [g_mac_0 hV hm, xb_n, a.1]
  refine Eq.trans ?_ h
  show (xb (f_X2_numberOfSpeed (nI (nN V (64 + 5 * m))) (spV V m k)) fun v3 => _) = _
  congr 1
  funext v3
  rw [xl_n, xl_n, (g_mac_1 hV hm).trans (congrArg some b.1), xb_n]
/-- whether pass n of carrier c is there -/
def spB (V : Nat → Int32) (c n : Nat) : Bool := decide (n / 6 < nN V 2 ∧ V (64 + 5 * (n / 6)) = V (24 + 5 * c)) && csV V (n / 6) (n / 2 % 3)
def spS (V : Nat → Int32) (n : Nat) : Int32 := spV V (n / 6) (n / 2 % 3)
theorem nI_mod {x y : Nat} (hx : x < 1000000) (hy : y < 1000000) : nI x - nI x / nI y * nI y = nI (x % y) := by
  have h := Nat.div_add_mod x y
  have h1 : x % y ≤ x := Nat.mod_le _ _
  have h2 : x / y * y ≤ x := Nat.div_mul_le_self x y
  rw [nI_div hx hy, pk_mul]
  apply Int32.toInt_inj.mp
  rw [Int32.toInt_sub, nI_toInt (by omega), nI_toInt (by omega), nI_toInt (by omega), Int.bmod_eq_of_le (by omega) (by omega)]
  rw [Nat.mul_comm] at h
  omega
theorem d6_n {n : Nat} (hn : n < 1000) : (nI n / 6 : Int32) = nI (n / 6) := nI_div (y := 6) (by omega) (by decide)
theorem d2_n {n : Nat} (hn : n < 1000) : (nI n / 2 : Int32) = nI (n / 2) := nI_div (y := 2) (by omega) (by decide)
theorem m3_n {n : Nat} (hn : n < 1000) : (nI n - nI n / 3 * 3 : Int32) = nI (n % 3) := nI_mod (y := 3) (by omega) (by decide)
theorem m2_n {n : Nat} (hn : n < 1000) : (nI n - nI n / 2 * 2 : Int32) = nI (n % 2) := nI_mod (y := 2) (by omega) (by decide)
theorem sp9 {V : Nat → Int32} {M : xM} (e : M 150 = V) (ho : Ok V) (hk : RefK M) {c n : Nat} (hc : c < nN V 1) (hn : n < 24) : ∃ x, f_X9_speedOfPass M (nI c) (nI n) = some x ∧ (spB V c n = true → x = spS V n ∧ rg x 1 380) ∧ (¬ spB V c n = true → x ≤ 0) := by
  have c1 := ok_c1 ho
  have c2 := ok_c2 ho
  have e2 : V 2 = nI (nN V 2) := ok_n2 ho
  unfold f_X9_speedOfPass f_X9_speedOfPass_71
  rw [xl_n, xl_n, d6_n (by omega), d2_n (by omega), m3_n (by omega), show xin 2 916 = true from by decide, xgd_n, ic_2, e, e2]
  have e71 : ∀ a b, f_X9_speedOfPass_72 M (nI c) (nI n) a b 0 = some 0 := fun a b => by unfold f_X9_speedOfPass_72; rw [xl_n, if_pos rfl]
  rw [e71]
  by_cases q1 : n / 6 < nN V 2
  case neg =>
    refine ⟨0, by rw [if_pos (by rw [le_n (by omega) (by omega)]; omega)], fun w => ?_, fun _ => by decide⟩
    unfold spB at w
    rw [Bool.and_eq_true] at w
    exact absurd (of_decide_eq_true w.1).1 q1
  have m6 : n / 6 < 4 := by omega
  have k3 : n / 2 % 3 < 3 := Nat.mod_lt _ (by decide)
  have a := kd_e ho q1
  have b := mk_e ho q1
  rw [if_neg (by rw [le_n (by omega) (by omega)]; omega), im_5, ia_64, im_5, ia_24, xin_n (by omega) (by omega), xgd_n, xin_n (by omega) (by omega), xgd_n, cl_n (by omega), cl_n (by omega)]
  by_cases q2 : V (64 + 5 * (n / 6)) = V (24 + 5 * c)
  case neg =>
    refine ⟨0, by rw [if_neg q2], fun w => ?_, fun _ => by decide⟩
    unfold spB at w
    rw [Bool.and_eq_true] at w
    exact absurd (of_decide_eq_true w.1).2 q2
  have d1 : decide (n / 6 < nN V 2 ∧ V (64 + 5 * (n / 6)) = V (24 + 5 * c)) = true := decide_eq_true ⟨q1, q2⟩
  have hsp : spB V c n = csV V (n / 6) (n / 2 % 3) := by unfold spB; rw [d1, Bool.true_and]
  rw [if_pos q2, ir_1, xin_n (by omega) (by omega), xgd_n, cl_n (by omega), b.1]
  have hb := cb_fin ⟨nN V (64 + 5 * (n / 6) + 1), b.2⟩ ⟨n / 2 % 3, k3⟩
  simp only [hb]
  by_cases q3 : (nN V (64 + 5 * (n / 6) + 1)).testBit (n / 2 % 3) = true
  case neg =>
    refine ⟨0, by rw [if_neg q3], fun w => ?_, fun _ => by decide⟩
    rw [hsp] at w
    unfold csV csP at w
    rw [Bool.and_eq_true] at w
    exact absurd w.2 q3
  have e72 : f_X9_speedOfPass_72 M (nI c) (nI n) (nI (64 + 5 * (n / 6))) (nI (n / 2 % 3)) 1 = some (spS V n) := by
    unfold f_X9_speedOfPass_72
    rw [xl_n, if_neg (by decide), xin_n (by omega) (by omega), xgd_n, cl_n (by omega), e, a.1, im_3, nI_add, xin_n (by omega) (by omega), xgd_n, cl_n (by omega), hk.1 _ (by omega)]
    rfl
  refine ⟨spS V n, by rw [if_pos q3]; exact e72, fun w => ⟨rfl, ?_⟩, fun w => ?_⟩
  · rw [hsp] at w
    exact spV_rg ho q1 k3 w
  · rw [hsp] at w
    have : ¬ 0 < xSpI (3 * nN V (64 + 5 * (n / 6)) + n / 2 % 3) := fun z => w (by unfold csV csP; rw [Bool.and_eq_true]; exact ⟨decide_eq_true z, q3⟩)
    exact xsp_le ⟨3 * nN V (64 + 5 * (n / 6)) + n / 2 % 3, by omega⟩ this
/-- layout of a carrier, head of a machine -/
theorem ly_e {V : Nat → Int32} (ho : Ok V) {c : Nat} (hc : c < nN V 1) : V (24 + 5 * c + 2) = nI (nN V (24 + 5 * c + 2)) ∧ nN V (24 + 5 * c + 2) ≤ 3 := by
  obtain ⟨k, hk, e⟩ := rg_ex (n := 3) (ho.2.1 c hc).2.2.1 (by decide)
  have e2 : nN V (24 + 5 * c + 2) = k := nN_of e (by omega)
  rw [e2]; exact ⟨e, hk⟩
theorem hd_e {V : Nat → Int32} (ho : Ok V) {m : Nat} (hm : m < nN V 2) : V (64 + 5 * m + 2) = nI (nN V (64 + 5 * m + 2)) ∧ nN V (64 + 5 * m + 2) ≤ 3 := by
  obtain ⟨k, hk, e⟩ := rg_ex (n := 3) (ho.2.2.1 m hm).2.2.1 (by decide)
  have e2 : nN V (64 + 5 * m + 2) = k := nN_of e (by omega)
  rw [e2]; exact ⟨e, hk⟩
/-- what pass n captures -/
def cqF (V : Nat → Int32) (c n : Nat) : Nat → Int32 := cpF V c (n / 6) (nN V (24 + 5 * c + 2)) (nN V (64 + 5 * (n / 6) + 2)) (spS V n) (n % 2)
theorem psO_le {V : Nat → Int32} (ho : Ok V) (c : Nat) : psO V c ≤ 24 := by
  have h4 := ok_c4 ho
  have : psO V c ≤ nN V 4 := cN_le _ _
  omega
theorem cq_rg {V : Nat → Int32} (ho : Ok V) {c n t : Nat} (hc : c < nN V 1) (hn : spB V c n = true) (hm : n / 6 < nN V 2) (ht : t < 4) : rg (cqF V c n t) 0 100 := by
  have r1 : rg (spS V n) 1 380 := by
    unfold spB at hn
    rw [Bool.and_eq_true] at hn
    exact spV_rg ho hm (Nat.mod_lt _ (by decide)) hn.2
  exact cap_rg (ho.2.2.1 _ hm).2.2.2 (ho.2.1 c hc).2.1 r1 (psO_le ho c) (ly_e ho hc).2 (hd_e ho hm).2 (Nat.mod_lt _ (by decide)) ht
theorem cq8 {V : Nat → Int32} {M : xM} (hV : Vw V M) {c n t : Nat} (hc : c < nN V 1) (hm : n / 6 < nN V 2) (hs : csV V (n / 6) (n / 2 % 3) = true) (ht : t < 4) : f_X8_captureNow M (nI c) (nI (n / 6)) (spS V n) (nI (n % 2)) (nI t) = some (cqF V c n t) := by
  have ho := v_ok hV
  have l := ly_e ho hc
  have h := hd_e ho hm
  exact cap8 (g_car_1 hV hc) ((g_car_2 hV hc).trans (congrArg some l.1)) ((g_mac_2 hV hm).trans (congrArg some h.1)) (g_mac_3 hV hm) (g_car_5 hV hc) (ho.2.1 c hc).2.1 (spV_rg ho hm (Nat.mod_lt _ (by decide)) hs) l.2 h.2 (Nat.mod_lt _ (by decide)) ht
theorem hq9 {V : Nat → Int32} {M : xM} (e : M 150 = V) (ho : Ok V) {c n : Nat} (hc : c < nN V 1) (hm : n / 6 < nN V 2) (hs : csV V (n / 6) (n / 2 % 3) = true) : ∃ b M1, f_X9_hears M (nI c) (nI (n / 6)) (spS V n) (nI (n % 2)) = some (b, M1) ∧ (∀ k, k ≠ 157 → M1 k = M k) ∧ ∀ t, t < 4 → M1 157 t = cqF V c n t := by
  have l := ly_e ho hc
  have h := hd_e ho hm
  obtain ⟨M1, a1, a2, a3⟩ := he9 ho hc hm l.1 h.1 (spV_rg ho hm (Nat.mod_lt _ (by decide)) hs) l.2 h.2 (Nat.mod_lt n (y := 2) (by decide)) M e
  exact ⟨_, M1, a1, a2, a3⟩
