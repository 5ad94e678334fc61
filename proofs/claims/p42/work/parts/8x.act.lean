/-! the law's acts -/
def Ac (F : Option (Int32 × xM)) (V : Rw) (d : Nat) (S : Option Rw) : Prop := ∃ M1 V2 T2 d2, F = some (1, M1) ∧ Rk V2 M1 T2 S ∧ I42 V2 ∧ V2 1 = V 1 ∧ V2 2 = V 2 ∧ d2 ≤ d + 12 ∧ V2 0 = nI d2
theorem Ac_id {V : Rw} {M : xM} {T : List Rw} {S : Option Rw} {d : Nat} (hR : Rk V M T S) (hI : I42 V) (hd : V 0 = nI d) : Ac (some (1, M)) V d S := ⟨M, V, T, d, rfl, hR, hI, rfl, rfl, by omega, hd⟩
theorem op8_ac {b : Int32} {F : Option (Int32 × xM)} {V : Rw} {M : xM} {T : List Rw} {S : Option Rw} {P : Int32 → Rw → Prop} {d : Nat} (h : Op8 b F V M T S P) (hR : Rk V M T S) (hI : I42 V) (hd : V 0 = nI d) (hb : b < 0) (hP : ∀ v V2, P v V2 → I42 V2 ∧ V2 0 = V 0 ∧ V2 1 = V 1 ∧ V2 2 = V 2) {K : Int32 → xM → Option (Int32 × xM)} (hK : ∀ v M1, ¬ v ≤ b → K v M1 = some (1, M1)) : Ac (xb2 F K) V d S := by
  rcases h with ⟨v, e, -, h2⟩ | ⟨v, M1, V2, e, h1, h2, h3⟩
  · rw [e, xb2_n, hK v M h2]
    exact Ac_id hR hI hd
  · have nb : ¬ v ≤ b := fun z => h2 (Std.lt_of_le_of_lt z hb)
    obtain ⟨g1, g2, g3, g4⟩ := hP v V2 h3
    rw [e, xb2_n, hK v M1 nb]
    exact ⟨M1, V2, _, d, rfl, h1, g1, g3, g4, by omega, g2.trans hd⟩
theorem trN_pos (l : Nat) : 0 < trN l := by unfold trN; split <;> (try split) <;> omega
theorem sp_ex (a b : Int32) : ∃ sp, f_L_speed a b = some sp := by
  unfold f_L_speed
  split
  · exact ⟨_, rfl⟩
  · split
    · exact ⟨_, rfl⟩
    · split
      · exact ⟨_, rfl⟩
      · split
        · exact ⟨_, rfl⟩
        · exact ⟨_, rfl⟩
theorem plays_ok {V : Rw} {M : xM} {T : List Rw} {S : Option Rw} {d : Nat} (hR : Rk V M T S) (hI : I42 V) (hd : V 0 = nI d) (h1 : 0 < nN V 1) (h2 : 0 < nN V 2) {x : Nat} (hx : x < 2147483648) : Ac (f_L_plays M (nI x)) V d S := by
  have hv := hR.1
  have ho := v_ok hv
  have c1 := ok_c1 ho
  have c2 := ok_c2 ho
  have c4 := ok_c4 ho
  have hc : x % nN V 1 < nN V 1 := Nat.mod_lt _ h1
  have hm : x / 8 % nN V 2 < nN V 2 := Nat.mod_lt _ h2
  have hs : x / 512 % 2 < 2 := Nat.mod_lt _ (by decide)
  have e1 : nI x - nI x / nI (nN V 1) * nI (nN V 1) = nI (x % nN V 1) := pk_rem hx h1 (by omega)
  have s3 : (nI x : Int32) >>> ((3 : Int32) &&& 31) = nI (x / 8) := pk_shrN hx _ 3 (by decide)
  have s9 : (nI x : Int32) >>> ((9 : Int32) &&& 31) = nI (x / 512) := pk_shrN hx _ 9 (by decide)
  have e2 : nI (x / 8) - nI (x / 8) / nI (nN V 2) * nI (nN V 2) = nI (x / 8 % nN V 2) := pk_rem (by omega) h2 (by omega)
  have e9 : nI (x / 512) &&& 1 = nI (x / 512 % 2) := pk_andN (by omega) 1 (by decide)
  generalize hcc : x % nN V 1 = c at hc e1
  generalize hmm : x / 8 % nN V 2 = m at hm e2
  generalize hss : x / 512 % 2 = s at hs e9
  unfold f_L_plays
  rw [t_1 hv, xb_n, ok_n1 ho, if_neg (nI_ne0 h1 (by omega)), xl_n, e1, t_2 hv, xb_n, ok_n2 ho, if_neg (nI_ne0 h2 (by omega)), xl_n, s3, e2, l_mac_0 hv hm, xb_n]
  obtain ⟨sp, hsp⟩ := sp_ex (V (64 + 5 * m)) ((nI x >>> ((6 : Int32) &&& 31)) - (nI x >>> ((6 : Int32) &&& 31)) / 3 * 3)
  rw [hsp, xb_n, xl_n, xl_n, s9, e9]
  obtain ⟨l, h, hl, hh, el, eh, cases'⟩ := cl_transfer hR hc hm hs sp
  rcases cases' with ⟨f1, f2⟩ | ⟨rs, kk, f2, ⟨v, M1, v1, v2, f1, r1⟩ | ⟨M1, v1, f1, r1⟩⟩
  · rw [f2, xb_n, xl_n, l_car_4 hv hc, xb_n, xl_n, f1, xb2_n, xl_n, if_neg (by decide), if_pos rfl, if_pos rfl]
    exact Ac_id hR hI hd
  · have hI2 := I_rsn ho hI v
    have hv2 := r1.1
    have e7 : upd V 7 v 7 = v := upd_eq
    have ec : upd V 7 v (24 + 5 * c + 4) = V (24 + 5 * c + 4) := upd_ne (by omega)
    have n1 : nN (upd V 7 v) 1 = nN V 1 := nNe (upd_ne (by decide))
    have cr := cap_rg (ho.2.2.1 m hm).2.2.2 (ho.2.1 c hc).2.1 rs (show psO V c ≤ 24 from Nat.le_trans (cN_le _ _) c4) hl hh hs (show 0 < 4 by decide)
    have vr : (0 < v ∧ v < 6) := by
      rcases v1 with ⟨a, -⟩ | ⟨-, a | a | a | a | ⟨a, -⟩⟩
      · rw [a]; decide
      · rw [a]; decide
      · rw [a]; decide
      · rw [a]; decide
      · rw [a]; decide
      · exact absurd a v2
    have fin : ∀ b : Int32, b = (if v = 1 then 1 else 0) → f_L_plays_153 M1 (nI x) (nI c) (nI m) sp (nI s) (if V (24 + 5 * c) = V (64 + 5 * m) then cpF V c m l h sp s 0 else -3) (V (24 + 5 * c + 4)) (-5) b = some (1, M1) := fun b hb => by
      unfold f_L_plays_153
      rw [t_11 hv2, xb_n, e7, hb]
      by_cases q : v = 1
      · rw [if_pos q, if_pos q]
        unfold f_L_plays_168
        rw [if_pos rfl]
      · rw [if_neg q, if_neg q]
        unfold f_L_plays_168
        rw [if_pos rfl]
    have res : Ac (some (1, M1)) V d S := ⟨M1, upd V 7 v, _, d, rfl, r1, hI2, upd_ne (by decide), upd_ne (by decide), by omega, (upd_ne (by decide)).trans hd⟩
    rw [f2, xb_n, xl_n, l_car_4 hv hc, xb_n, xl_n, f1, xb2_n, xl_n, if_neg (by decide), if_neg (by decide), if_pos rfl, t_11 hv2, xb_n, e7, if_neg (Int32.not_le.mpr vr.1), xb_n, if_neg (Int32.not_le.mpr vr.2), l_car_4 hv2 (by rw [n1]; exact hc), xb_n, ec, if_pos rfl]
    by_cases q : V (24 + 5 * c) = V (64 + 5 * m)
    · have vn : ¬ v = 1 := fun z => by
        rcases v1 with ⟨-, a⟩ | ⟨-, a | a | a | a | ⟨a, -⟩⟩
        · exact a q
        · rw [a] at z; exact absurd z (by decide)
        · rw [a] at z; exact absurd z (by decide)
        · rw [a] at z; exact absurd z (by decide)
        · rw [a] at z; exact absurd z (by decide)
        · rw [a] at z; exact absurd z (by decide)
      have ne3 : ¬ (if V (24 + 5 * c) = V (64 + 5 * m) then cpF V c m l h sp s 0 else -3) = -3 := fun z => by
        rw [if_pos q] at z
        unfold cpF at z
        rw [z] at cr
        exact absurd cr.1 (by decide)
      rw [if_neg ne3, fin 0 (by rw [if_neg vn])]
      exact res
    · have vn : v = 1 := by
        rcases v1 with ⟨a, -⟩ | ⟨a, -⟩
        · exact a
        · exact absurd a q
      have e3 : (if V (24 + 5 * c) = V (64 + 5 * m) then cpF V c m l h sp s 0 else -3) = -3 := if_neg q
      rw [if_pos e3, fin 1 (by rw [if_pos vn])]
      exact res
  · have hI2 := I_pass ho hI hc hm el hl rs kk v1
    have sk : V (24 + 5 * c) = V (64 + 5 * m) := by
      rcases v1 with ⟨a, -⟩ | ⟨a, -⟩
      · exact absurd a (by decide)
      · exact a
    have n24 : nN V 4 < 24 := by
      rcases v1 with ⟨a, -⟩ | ⟨-, a | a | a | a | ⟨-, -, -, -, b⟩⟩
      · exact absurd a (by decide)
      · exact absurd a (by decide)
      · exact absurd a (by decide)
      · exact absurd a (by decide)
      · exact absurd a (by decide)
      · exact b
    have hv2 := r1.1
    rw [if_pos sk] at f2
    generalize hf : cpF V c m l h sp s = f at r1 hI2 f2 hv2
    have e7 := pv_7 (V := V) (n := nN V 4) (c := c) (m := m) (s := s) (sp := sp) (f := f)
    have e4 := pv_4 (V := V) (n := nN V 4) (c := c) (m := m) (s := s) (sp := sp) (f := f)
    have ec := pv_c (V := V) (n := nN V 4) (s := s) (sp := sp) (f := f) (show c < 8 by omega) (show m < 4 by omega)
    have ef := pv_f (V := V) (n := nN V 4) (c := c) (m := m) (s := s) (sp := sp) (f := f) (by omega) (by omega) (show 0 < 4 by decide)
    have eo : ∀ j, j ≠ 4 → j ≠ 7 → j < 24 ∨ j = 24 + 5 * c + 1 → passV V (nN V 4) c m sp s f j = V j := fun j a1 a2 a3 => pv_o a1 a2 (by omega) (by omega) (by omega)
    generalize passV V (nN V 4) c m sp s f = V2 at r1 hI2 hv2 e7 e4 ec ef eo
    have n1 : nN V2 1 = nN V 1 := nNe (eo 1 (by decide) (by decide) (by omega))
    have n4 : nN V2 4 = nN V 4 + 1 := nN_of e4 (by omega)
    have lc : f_X8_captured M1 (nI (nN V 4)) 0 = some (f 0) := by
      have := l_cap hv2 (p := nN V 4) (t := 0) (by omega) (by decide)
      rw [if_pos (trN_pos _), ef] at this
      exact this
    have fin : ∀ y : Int32, plV V c sp = y → f_L_plays_222 M1 (nI x) (nI c) (nI m) sp (nI s) (f 0) (V (24 + 5 * c + 4)) (nI (nN V 4)) (V (24 + 5 * c + 4) - plV V c sp) (V (24 + 5 * c + 4)) y = some (1, M1) := fun y hy => by
      unfold f_L_plays_222
      rw [if_pos (by rw [hy])]
    have res : Ac (some (1, M1)) V d S := ⟨M1, V2, _, d, rfl, r1, hI2, eo 1 (by decide) (by decide) (by omega), eo 2 (by decide) (by decide) (by omega), by omega, (eo 0 (by decide) (by decide) (by omega)).trans hd⟩
    rw [f2, xb_n, xl_n, l_car_4 hv hc, xb_n, xl_n, f1, xb2_n, xl_n, if_pos (nI_pos' (by omega)), t_11 hv2, xb_n, if_pos e7, lc, xb_n, if_pos rfl, l_car_4 hv2 (by rw [n1]; exact hc), xb_n, l_car_1 hv2 (by rw [n1]; exact hc), xb_n, ec, eo (24 + 5 * c + 1) (by omega) (by omega) (Or.inr rfl)]
    by_cases q : sp ≤ V (24 + 5 * c + 1)
    · rw [if_pos q, fin 1 (by unfold plV; rw [if_pos q])]
      exact res
    · rw [if_neg q, fin 2 (by unfold plV; rw [if_neg q])]
      exact res
