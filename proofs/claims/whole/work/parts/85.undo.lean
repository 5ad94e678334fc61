/-! undo, save, restore -/
theorem und22 {s : Nat} (hs : s < 5) : ∀ (d i : Nat) (M : xM) (fu : Nat), i + d = 916 → d < fu → M 149 2 = nI s → f_X9_undo_22 fu M (nI i) = some (nI s, fun a b => if a = 150 ∧ i ≤ b ∧ b < 916 then M 151 (916 * s + b) else M a b) := by
  intro d
  induction d with
  | zero =>
    intro i M fu h1 h2 h3
    obtain ⟨g, rfl⟩ : ∃ g, fu = g + 1 := ⟨fu - 1, by omega⟩
    have hi : i = 916 := by omega
    subst hi
    rw [f_X9_undo_22, if_pos (by rw [li_916, le_n (by decide) (by decide)]; exact Nat.le_refl _), h3]
    congr 2
    funext a b
    rw [if_neg (by omega)]
  | succ d ih =>
    intro i M fu h1 h2 h3
    obtain ⟨g, rfl⟩ : ∃ g, fu = g + 1 := ⟨fu - 1, by omega⟩
    rw [f_X9_undo_22, if_neg (by rw [li_916, le_n (by decide) (by omega)]; omega), h3, im_916, nI_add, xin_n (by omega) (by omega), xgd_n, xin_n (by omega) (by omega), xgd_n, cl_n (by omega), cl_n (by omega), xl_n, xl_n, ir_1, ih (i + 1) _ g (by omega) (by omega) (by simp [xw, h3])]
    congr 2
    funext a b
    unfold xw
    by_cases ha : a = 150
    · subst ha
      by_cases hb : b = i
      · subst hb
        rw [if_neg (by omega), if_pos ⟨rfl, rfl⟩, if_pos ⟨rfl, by omega, by omega⟩]
      · by_cases hb2 : i ≤ b ∧ b < 916
        · rw [if_pos ⟨rfl, by omega, hb2.2⟩, if_neg (by omega), if_pos ⟨rfl, hb2.1, hb2.2⟩]
        · rw [if_neg (by omega), if_neg (by omega), if_neg (by omega)]
    · rw [if_neg (by omega), if_neg (by omega), if_neg (by omega)]
theorem res29 {s : Nat} (hs : s < 2) : ∀ (d i : Nat) (M : xM) (fu : Nat), i + d = 916 → d < fu → f_X9_restore_29 fu M (nI s) (nI i) = some ((if i = 0 then M 152 (916 * s) else M 150 0), fun a b => if a = 150 ∧ i ≤ b ∧ b < 916 then M 152 (916 * s + b) else M a b) := by
  intro d
  induction d with
  | zero =>
    intro i M fu h1 h2
    obtain ⟨g, rfl⟩ : ∃ g, fu = g + 1 := ⟨fu - 1, by omega⟩
    have hi : i = 916 := by omega
    subst hi
    rw [f_X9_restore_29, if_pos (by rw [li_916, le_n (by decide) (by decide)]; exact Nat.le_refl _), if_neg (by omega), IN.2.2.1, xgd_n, ic_0]
    congr 2
    funext a b
    rw [if_neg (by omega)]
  | succ d ih =>
    intro i M fu h1 h2
    obtain ⟨g, rfl⟩ : ∃ g, fu = g + 1 := ⟨fu - 1, by omega⟩
    rw [f_X9_restore_29, if_neg (by rw [li_916, le_n (by decide) (by omega)]; omega), im_916, nI_add, xin_n (by omega) (by omega), xgd_n, xin_n (by omega) (by omega), xgd_n, cl_n (by omega), cl_n (by omega), xl_n, xl_n, ir_1, ih (i + 1) _ g (by omega) (by omega)]
    rw [if_neg (show ¬ i + 1 = 0 by omega)]
    congr 2
    · unfold xw
      by_cases h0 : i = 0
      · subst h0; rw [if_pos ⟨rfl, rfl⟩, if_pos rfl]; rfl
      · rw [if_neg (by omega), if_neg h0]
    · funext a b
      unfold xw
      by_cases ha : a = 150
      · subst ha
        by_cases hb : b = i
        · subst hb
          rw [if_neg (by omega), if_pos ⟨rfl, rfl⟩, if_pos ⟨rfl, by omega, by omega⟩]
        · by_cases hb2 : i ≤ b ∧ b < 916
          · rw [if_pos ⟨rfl, by omega, hb2.2⟩, if_neg (by omega), if_pos ⟨rfl, hb2.1, hb2.2⟩]
          · rw [if_neg (by omega), if_neg (by omega), if_neg (by omega)]
      · rw [if_neg (by omega), if_neg (by omega), if_neg (by omega)]
theorem sav13 {s : Nat} (hs : s < 2) : ∀ (d i : Nat) (M : xM) (fu : Nat), i + d = 916 → d < fu → f_X9_save_13 fu M (nI s) (nI i) = some (M 150 0, fun a b => if a = 153 ∧ b = s then 1 else if a = 152 ∧ 916 * s + i ≤ b ∧ b < 916 * s + 916 then M 150 (b - 916 * s) else M a b) := by
  intro d
  induction d with
  | zero =>
    intro i M fu h1 h2
    obtain ⟨g, rfl⟩ : ∃ g, fu = g + 1 := ⟨fu - 1, by omega⟩
    have hi : i = 916 := by omega
    subst hi
    rw [f_X9_save_13, if_pos (by rw [li_916, le_n (by decide) (by decide)]; exact Nat.le_refl _), xin_n (by omega) (by omega), xgd_n, xl_n, IN.2.2.1, xgd_n, ic_0, cl_n (by omega), xw_o (by omega)]
    congr 2
    funext a b
    unfold xw
    by_cases h : a = 153 ∧ b = s
    · rw [if_pos h, if_pos h]
    · rw [if_neg h, if_neg h, if_neg (by omega)]
  | succ d ih =>
    intro i M fu h1 h2
    obtain ⟨g, rfl⟩ : ∃ g, fu = g + 1 := ⟨fu - 1, by omega⟩
    rw [f_X9_save_13, if_neg (by rw [li_916, le_n (by decide) (by omega)]; omega), xin_n (by omega) (by omega), xgd_n, im_916, nI_add, xin_n (by omega) (by omega), xgd_n, cl_n (by omega), cl_n (by omega), xl_n, xl_n, ir_1, ih (i + 1) _ g (by omega) (by omega), xw_o (by omega)]
    congr 2
    funext a b
    by_cases h : a = 153 ∧ b = s
    · rw [if_pos h, if_pos h]
    · rw [if_neg h, if_neg h, xw_ne (show 150 ≠ 152 by decide)]
      unfold xw
      by_cases ha : a = 152
      · subst ha
        by_cases hb : b = 916 * s + i
        · subst hb
          rw [if_neg (by omega), if_pos ⟨rfl, rfl⟩, if_pos ⟨rfl, by omega, by omega⟩, show 916 * s + i - 916 * s = i by omega]
        · by_cases hb2 : 916 * s + i ≤ b ∧ b < 916 * s + 916
          · rw [if_pos ⟨rfl, by omega, hb2.2⟩, if_pos ⟨rfl, hb2.1, hb2.2⟩]
          · rw [if_neg (by omega), if_neg (by omega), if_neg (by omega)]
      · rw [if_neg (by omega), if_neg (by omega), if_neg (by omega)]
theorem op_undo {M : xM} (hR : Rl M) : Op2 f_X8_undo f_X9_undo M := by
  obtain ⟨hE, hz, hc, hk, hH, hS, hT⟩ := hR
  obtain ⟨hc5, h, e, hh, he, a3, a4, a5, a6⟩ := hH
  unfold Op2 f_X8_undo f_X9_undo
  by_cases h0 : h = 0
  · subst h0
    exact ⟨-3, M, M, by rw [a4, if_pos (show nI 0 = (0 : Int32) from rfl)], by rw [a3, if_pos (show nI 0 = (0 : Int32) from rfl)], hE, hz, hc, hk, ⟨hc5, 0, e, hh, he, a3, a4, a5, a6⟩, hS, hT⟩
  obtain ⟨j, rfl⟩ : ∃ j, h = j + 1 := ⟨h - 1, by omega⟩
  have hne : ¬ nI (j + 1) = 0 := by rw [li_0, eq_n (by omega) (by decide)]; omega
  have hx : f_X1_takeBack M = f_X1_takeBack_18 M (nI ((e + 4) % 5)) := by
    unfold f_X1_takeBack
    rw [a5]
    by_cases e0 : e = 0
    · subst e0; rw [if_pos (by decide)]; rfl
    · obtain ⟨k, rfl⟩ : ∃ k, e = k + 1 := ⟨e - 1, by omega⟩
      rw [if_neg (by rw [li_0, le_n (by omega) (by decide)]; omega), nI_pred, show (k + 1 + 4) % 5 = k by omega]
  have he' : (e + 4) % 5 < 5 := Nat.mod_lt _ (by decide)
  obtain ⟨M0, e0⟩ : ∃ M0, M0 = xw (xw M 18 1 (nI ((e + 4) % 5))) 18 2 (nI j) := ⟨_, rfl⟩
  have m0 : ∀ k, k ≠ 18 → M0 k = M k := fun k hk => by rw [e0, xw_ne hk, xw_ne hk]
  have hb : 20 ≤ hB ((e + 4) % 5) ∧ hB ((e + 4) % 5) + 16 ≤ 104 := by unfold hB; omega
  obtain ⟨M1, c1, c2⟩ := cp_e (b := 1) (o := hB ((e + 4) % 5)) (M := M0) (by omega)
  have m1 : ∀ k, 18 ≤ k → M1 k = M0 k := fun k hk => c2.2.2.2.2.2 k (by omega)
  have hEj := a6 j (by omega)
  rw [show (e + 5 - (j + 1) + j) % 5 = (e + 4) % 5 by congr 1; omega] at hEj
  have hE0 : Enc (hV M j) M0 (hB ((e + 4) % 5)) := Enc_of hEj (Lk_same (fun k b1 b2 => m0 k (by omega)))
  have hE1 : Enc (hV M j) M1 1 := Enc_of hE0 (Lk_cp c2)
  have hC1 : EncCol M1 1 := Col_cp c2 (Col_same (fun k b1 b2 => m0 k (by omega)) hc) (Col_same (fun k b1 b2 => m0 k (by omega)) (hc5 _ he'))
  have v2 : M1 18 2 = nI j := by rw [m1 18 (by decide), e0, xw_same]
  have v1 : M1 18 1 = nI ((e + 4) % 5) := by rw [m1 18 (by decide), e0, xw_o (by decide), xw_same]
  have m9 : ∀ k, 19 ≤ k → M1 k = M k := fun k hk => (m1 k (by omega)).trans (m0 k (by omega))
  obtain ⟨M2, e2⟩ : ∃ M2 : xM, M2 = fun a b => if a = 150 ∧ 0 ≤ b ∧ b < 916 then xw M1 149 2 (nI j) 151 (916 * j + b) else xw M1 149 2 (nI j) a b := ⟨_, rfl⟩
  have g : ∀ k, k ≠ 150 → k ≠ 149 → M2 k = M1 k := fun k b1 b2 => by
    funext b
    rw [e2]
    simp only [b1, false_and, if_false]
    rw [xw_ne b2]
  have g9 : ∀ b, M2 149 b = xw M1 149 2 (nI j) 149 b := fun b => by rw [e2]; simp
  have g150 : M2 150 = hV M j := by
    funext b
    rw [e2]
    unfold hV
    by_cases hb : b < 916
    · simp only [hb, Nat.zero_le, and_self, if_true]
      rw [xw_ne (by decide), m9 151 (by decide)]
    · simp only [hb, and_false, if_false]
      rw [xw_ne (by decide), m9 150 (by decide)]
      exact hz b (by omega)
  refine ⟨nI j, M1, M2, ?_, ?_, ?_⟩
  · rw [a4, if_neg hne, hx]
    unfold f_X1_takeBack_18
    have w : xw (xw M 18 1 (nI ((e + 4) % 5))) 18 2 (xmx ((xw M 18 1 (nI ((e + 4) % 5)) 18 2) - 1) 0) = M0 := by
      rw [e0, xw_o (by decide), a4, nI_pred]
      congr 1
      unfold xmx
      rw [if_neg (by rw [li_0, lt_n (by omega) (by decide)]; omega)]
    rw [xl_n, xl_n, w]
    have w1 : M0 18 1 = nI ((e + 4) % 5) := by rw [e0, xw_o (by decide), xw_same]
    rw [w1, stateAt_e he', xb_n]
    show (xb (xgd (xStaB (hB ((e + 4) % 5))) _) _) = _
    rw [xgd_t _ (xStaB_e he'), c1, xb_n, xb_n, v2]
  · have p1 : M1 149 2 = nI (j + 1) := by rw [m9 149 (by decide)]; exact a3
    rw [p1, if_neg hne, nI_pred, xl_n, xl_n]
    have key := und22 (s := j) (by omega) 916 0 (xw M1 149 2 (nI j)) xFU (by omega) (by unfold xFU; omega) xw_same
    rw [e2]
    exact key
  · have m2 : ∀ k, 19 ≤ k → k ≠ 149 → k ≠ 150 → M2 k = M k := fun k b1 b2 b3 => (g k b3 b2).trans (m9 k b1)
    refine ⟨by rw [g150]; exact Enc_of hE1 (Lk_same (fun k b1 b2 => g k (by omega) (by omega))), by rw [g150]; intro k hk; unfold hV; rw [if_neg (by omega)], Col_same (fun k b1 b2 => g k (by omega) (by omega)) hC1, RefK_fr hk (m2 155 (by decide) (by decide) (by decide)) (m2 156 (by decide) (by decide) (by decide)), ?_, Slots_fr hS (fun k b1 b2 => m2 k (by omega) (by omega) (by omega)) (m2 152 (by decide) (by decide) (by decide)) (m2 153 (by decide) (by decide) (by decide)), Txt_fr hT (by rw [m2 141 (by decide) (by decide) (by decide)]) (m2 142 (by decide) (by decide) (by decide)) (by rw [g9, xw_o (by decide), m9 149 (by decide)]) (m2 154 (by decide) (by decide) (by decide))⟩
    refine ⟨fun i hi => Col_same (fun k b1 b2 => m2 k (by unfold hB at b1; omega) (by unfold hB at b2; omega) (by unfold hB at b2; omega)) (hc5 i hi), j, (e + 4) % 5, by omega, he', by rw [g9, xw_same], by rw [g 18 (by decide) (by decide)]; exact v2, by rw [g 18 (by decide) (by decide)]; exact v1, fun i hi => ?_⟩
    have e1 : hV M2 i = hV M i := by unfold hV; rw [m2 151 (by decide) (by decide) (by decide)]
    have ix : ((e + 4) % 5 + 5 - j + i) % 5 = (e + 5 - (j + 1) + i) % 5 := by omega
    rw [e1, ix]
    have hm : (e + 5 - (j + 1) + i) % 5 < 5 := Nat.mod_lt _ (by decide)
    exact Enc_of (a6 i (by omega)) (Lk_same (fun k b1 b2 => m2 k (by unfold hB at b1; omega) (by unfold hB at b2; omega) (by unfold hB at b2; omega)))
theorem slot_e {s : Nat} (hs : s < 2) (M : xM) : f_X8_slotOf M (nI s) = some (some (105 + 18 * s)) ∧ xSloB (105 + 18 * s) = true := by
  rcases (show s = 0 ∨ s = 1 by omega) with rfl | rfl
  · exact ⟨by unfold f_X8_slotOf; rw [if_pos (show nI 0 = (0 : Int32) from rfl)], by decide⟩
  · exact ⟨by unfold f_X8_slotOf; rw [if_neg (by decide), if_pos (show nI 1 = (1 : Int32) from rfl)], by decide⟩
theorem slot_no {a : Int32} (h : ¬ (0 ≤ a ∧ a ≤ 1)) (M : xM) : f_X8_slotOf M a = some none := by
  unfold f_X8_slotOf
  rw [if_neg (fun w => h (by rw [w]; decide)), if_neg (fun w => h (by rw [w]; decide))]
theorem op_save {M : xM} (hR : Rl M) (a : Int32) : Op2 (fun m => f_X8_save m a) (fun m => f_X9_save m a) M := by
  unfold Op2 f_X8_save f_X9_save
  by_cases hb : 0 ≤ a ∧ a ≤ 1
  case neg => exact ⟨-1, M, M, by simp only [slot_no hb, xb_n]; rfl, by simp only [in_e, wi_e, xb_n, ifb0, if_neg hb], hR⟩
  obtain ⟨s, hs, rfl⟩ := nI_ex (n := 1) (by decide) hb
  have hs2 : s < 2 := by omega
  obtain ⟨hE, hz, hc, hk, hH, hS, hT⟩ := hR
  obtain ⟨M1, c1, c2⟩ := cp_e (b := 105 + 18 * s + 1) (o := 1) (M := M) (by omega)
  have m1 : ∀ k, k < 105 + 18 * s + 1 ∨ 105 + 18 * s + 17 < k → M1 k = M k := fun k hk => c2.2.2.2.2.2 k (by omega)
  obtain ⟨M3, e3⟩ : ∃ M3, M3 = xw M1 (105 + 18 * s) 1 1 := ⟨_, rfl⟩
  have m3 : ∀ k, k < 105 + 18 * s ∨ 105 + 18 * s + 17 < k → M3 k = M k := fun k hk => by rw [e3, xw_ne (by omega)]; exact m1 k (by omega)
  obtain ⟨M2, e2⟩ : ∃ M2 : xM, M2 = fun a b => if a = 153 ∧ b = s then 1 else if a = 152 ∧ 916 * s + 0 ≤ b ∧ b < 916 * s + 916 then M3 150 (b - 916 * s) else M3 a b := ⟨_, rfl⟩
  have g : ∀ k, k ≠ 152 → k ≠ 153 → M2 k = M3 k := fun k b1 b2 => by
    funext b
    rw [e2]
    simp [b1, b2]
  have h8 : M3 1 8 = M 150 0 := by
    rw [m3 1 (by omega)]
    exact hE.1.2.2.2.2.2.2.2.2.2.2.2.1
  refine ⟨M 150 0, M3, M2, ?_, ?_, ?_⟩
  · obtain ⟨s1, s2⟩ := slot_e hs2 M
    simp only [s1, xb_n]
    show xgd (xSloB (105 + 18 * s)) _ = _
    rw [s2, xgd_n, c1, xb_n, xl_n, ← e3, h8]
  · have key := sav13 hs2 916 0 M3 xFU (by omega) (by unfold xFU; omega)
    simp only [in_e, wi_e, xb_n, ifb0, if_pos hb, xl_n]
    rw [e2]
    have m150 : M3 150 0 = M 150 0 := by rw [m3 150 (by omega)]
    rw [m150] at key
    exact key
  · have w : ∀ k, k < 105 ∨ 140 < k → k ≠ 152 → k ≠ 153 → M2 k = M k := fun k b1 b2 b3 => (g k b2 b3).trans (m3 k (by omega))
    have w150 : M2 150 = M 150 := w 150 (by omega) (by decide) (by decide)
    refine ⟨by rw [w150]; exact Enc_of hE (Lk_same (fun k _ _ => w k (by omega) (by omega) (by omega))), by rw [w150]; exact hz, Col_same (fun k _ _ => w k (by omega) (by omega) (by omega)) hc, RefK_fr hk (w 155 (by omega) (by decide) (by decide)) (w 156 (by omega) (by decide) (by decide)), Hist_fr hH (by rw [w 149 (by omega) (by decide) (by decide)]) (fun k b1 b2 => w k (by omega) (by omega) (by omega)) (w 151 (by omega) (by decide) (by decide)), ?_, Txt_fr hT (by rw [w 141 (by omega) (by decide) (by decide)]) (w 142 (by omega) (by decide) (by decide)) (by rw [w 149 (by omega) (by decide) (by decide)]) (w 154 (by omega) (by decide) (by decide))⟩
    obtain ⟨hc2, hs3⟩ := hS
    have other : ∀ t, t < 2 → t ≠ s → ∀ k, 105 + 18 * t ≤ k → k ≤ 105 + 18 * t + 17 → M2 k = M k := fun t ht hts k b1 b2 => by
      rw [g k (by omega) (by omega)]
      exact m3 k (by omega)
    have hcs : EncCol M1 (105 + 18 * s + 1) := Col_cp c2 (by have := hc2 s hs2; unfold sB at this; rw [show 105 + 18 * s + 1 = 106 + 18 * s by omega]; exact this) hc
    have sameS : ∀ k, 105 + 18 * s + 1 ≤ k → k ≤ 105 + 18 * s + 1 + 16 → M2 k = M1 k := fun k b1 b2 => by
      rw [g k (by omega) (by omega), e3, xw_ne (by omega)]
    have sbe : ∀ t, sB t = 105 + 18 * t + 1 := fun t => by unfold sB; omega
    refine ⟨fun t ht => ?_, fun t ht => ?_⟩
    · by_cases hts : t = s
      · rw [hts, sbe]
        exact Col_same sameS hcs
      · rw [sbe]
        have := hc2 t ht
        rw [sbe] at this
        exact Col_same (fun k b1 b2 => other t ht hts k (by omega) (by omega)) this
    · by_cases hts : t = s
      · subst hts
        right
        refine ⟨by rw [e2]; simp, by rw [g _ (by omega) (by omega), e3, xw_same], ?_⟩
        have eV : sV M2 t = M 150 := by
          funext k
          unfold sV
          by_cases hk2 : k < 916
          · rw [if_pos hk2, e2]
            simp only [show ¬ (152 = 153 ∧ 916 * t + k = t) by omega, if_false]
            rw [if_pos ⟨trivial, by omega, by omega⟩, m3 150 (by omega), show 916 * t + k - 916 * t = k by omega]
          · rw [if_neg hk2]; exact (hz k (by omega)).symm
        rw [eV, sbe]
        exact Enc_of (Enc_of hE (Lk_cp c2)) (Lk_same sameS)
      · have e153 : M2 153 t = M 153 t := by
          rw [e2]
          show (if 153 = 153 ∧ t = s then (1 : Int32) else if 153 = 152 ∧ 916 * s + 0 ≤ t ∧ t < 916 * s + 916 then M3 150 (t - 916 * s) else M3 153 t) = _
          rw [if_neg (by omega), if_neg (by omega), m3 153 (by omega)]
        have eV : sV M2 t = sV M t := by
          funext k
          unfold sV
          by_cases hk2 : k < 916
          · rw [if_pos hk2, if_pos hk2, e2]
            simp only [show ¬ (152 = 153 ∧ 916 * t + k = s) by omega, if_false]
            rw [if_neg (by omega), m3 152 (by omega)]
          · rw [if_neg hk2, if_neg hk2]
        rw [e153, eV, other t ht hts _ (Nat.le_refl _) (by omega)]
        rcases hs3 t ht with q | ⟨q1, q2, q3⟩
        · exact Or.inl q
        · refine Or.inr ⟨q1, q2, ?_⟩
          rw [sbe] at q3 ⊢
          exact Enc_of q3 (Lk_same (fun k b1 b2 => other t ht hts k (by omega) (by omega)))
theorem op_restore {M : xM} (hR : Rl M) (a : Int32) : Op2 (fun m => f_X8_restore m a) (fun m => f_X9_restore m a) M := by
  unfold Op2 f_X8_restore f_X9_restore
  by_cases hb : 0 ≤ a ∧ a ≤ 1
  case neg => exact ⟨-1, M, M, by simp only [slot_no hb, xb_n]; rfl, by simp only [in_e, wi_e, xb_n, ifb0, if_neg hb], hR⟩
  obtain ⟨s, hs, rfl⟩ := nI_ex (n := 1) (by decide) hb
  have hs2 : s < 2 := by omega
  obtain ⟨s1, s2⟩ := slot_e hs2 M
  have hS := hR.2.2.2.2.2.1
  have sbe : ∀ t, sB t = 105 + 18 * t + 1 := fun t => by unfold sB; omega
  have hcs := hS.1 s hs2
  rw [sbe] at hcs
  rcases hS.2 s hs2 with ⟨q1, q2⟩ | ⟨q1, q2, q3⟩
  · refine ⟨-3, M, M, ?_, ?_, hR⟩
    · simp only [s1, xb_n]
      show xgd (xSloB (105 + 18 * s)) _ = _
      rw [s2, xgd_n, q2, if_pos rfl]
    · simp only [in_e, wi_e, xb_n, ifb0, if_pos hb]
      rw [xin_n (by omega) (by omega), xgd_n, cl_n (by omega), q1, if_pos rfl]
  rw [sbe] at q3
  obtain ⟨Mk, k1, k2, k3, k4⟩ := do_keep hR
  obtain ⟨M1, c1, c2⟩ := cp_e (b := 1) (o := 105 + 18 * s + 1) (M := Mk) (by omega)
  have m1 : ∀ k, 18 ≤ k → M1 k = Mk k := fun k hk => c2.2.2.2.2.2 k (by omega)
  have q3k : Enc (sV M s) Mk (105 + 18 * s + 1) := Enc_of q3 (Lk_same (fun k b1 b2 => k3 k (by omega)))
  have hE1 : Enc (sV M s) M1 1 := Enc_of q3k (Lk_cp c2)
  have hC1 : EncCol M1 1 := Col_cp c2 k2.2.2.1 (Col_same (fun k b1 b2 => k3 k (by omega)) hcs)
  obtain ⟨Mr, r1, r2, r3, r4⟩ := k4 M1 (fun k b => m1 k b.1) (m1 150 (by decide)) (by rw [m1 141 (by decide)]) (by rw [m1 149 (by decide)]) (by rw [m1 149 (by decide)])
  have r152 : Mr 152 = M 152 := by rw [r2 152 (by decide) (by decide), m1 152 (by decide), k3 152 (by omega)]
  have r150 : Mr 150 = M 150 := by rw [r2 150 (by decide) (by decide), m1 150 (by decide), k3 150 (by omega)]
  obtain ⟨M2, e2⟩ : ∃ M2 : xM, M2 = fun a b => if a = 150 ∧ 0 ≤ b ∧ b < 916 then Mr 152 (916 * s + b) else Mr a b := ⟨_, rfl⟩
  have g : ∀ k, k ≠ 150 → M2 k = Mr k := fun k b1 => by
    funext b
    rw [e2]
    simp [b1]
  have g150 : M2 150 = sV M s := by
    funext b
    rw [e2]
    unfold sV
    by_cases hb : b < 916
    · simp only [hb, Nat.zero_le, and_self, if_true]
      rw [r152]
    · simp only [hb, and_false, if_false]
      rw [r150]
      exact hR.2.1 b (by omega)
  have v0 : M1 1 8 = M 152 (916 * s) := by
    rw [hE1.1.2.2.2.2.2.2.2.2.2.2.2.1]
    unfold sV
    rw [if_pos (by decide)]
    rfl
  refine ⟨M 152 (916 * s), M1, M2, ?_, ?_, ?_⟩
  · simp only [s1, xb_n]
    show xgd (xSloB (105 + 18 * s)) _ = _
    rw [s2, xgd_n, q2, if_neg (by decide), k1, xb_n, c1, xb_n, v0]
  · simp only [in_e, wi_e, xb_n, ifb0, if_pos hb]
    have e153 : M1 153 s = 1 := by rw [m1 153 (by decide), k3 153 (by omega)]; exact q1
    rw [xin_n (by omega) (by omega), xgd_n, cl_n (by omega), e153, if_neg (by decide), r1, xb_n, xl_n]
    have key := res29 hs2 916 0 Mr xFU (by omega) (by unfold xFU; omega)
    rw [if_pos rfl, r152] at key
    rw [e2, r152]
    exact key
  · have lo : ∀ k, 1 ≤ k → k ≤ 17 → M2 k = M1 k := fun k b1 b2 => by rw [g k (by omega), r2 k (by omega) (by omega)]
    exact r4 M2 (fun k b => g k (fr_ne b).1) (by rw [g 141 (by decide)]) (by rw [g 149 (by decide)]) (by rw [g 149 (by decide)]) (by rw [g150]; exact Enc_of hE1 (Lk_same (fun k b1 b2 => lo k b1 (by omega)))) (by rw [g150]; intro k hk; unfold sV; rw [if_neg (by omega)]) (Col_same (fun k b1 b2 => lo k b1 (by omega)) hC1)
