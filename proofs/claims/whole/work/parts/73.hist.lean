/-! history, slots, text: the whole relation; keep and record -/
def hV (M : xM) (j : Nat) : Nat → Int32 := fun k => if k < 916 then M 151 (916 * j + k) else 0
def sV (M : xM) (s : Nat) : Nat → Int32 := fun k => if k < 916 then M 152 (916 * s + k) else 0
def hB (j : Nat) : Nat := 20 + 17 * j
def sB (s : Nat) : Nat := 106 + 18 * s
def Hist (M : xM) : Prop := (∀ j, j < 5 → EncCol M (hB j)) ∧ ∃ h e : Nat, h ≤ 5 ∧ e < 5 ∧ M 149 2 = nI h ∧ M 18 2 = nI h ∧ M 18 1 = nI e ∧ ∀ j, j < h → Enc (hV M j) M (hB ((e + 5 - h + j) % 5))
def Slots (M : xM) : Prop := (∀ s, s < 2 → EncCol M (sB s)) ∧ ∀ s, s < 2 → (M 153 s = 0 ∧ M (105 + 18 * s) 1 = 0) ∨ (M 153 s = 1 ∧ M (105 + 18 * s) 1 = 1 ∧ Enc (sV M s) M (sB s))
def Txt (M : xM) : Prop := ∃ L : Nat, L ≤ 80 ∧ M 141 2 = nI L ∧ M 149 6 = nI L ∧ ∀ j, j < L → M 154 j = M 142 j ∧ rg (M 142 j) 32 126
def Z916 (V : Nat → Int32) : Prop := ∀ k, 916 ≤ k → V k = 0
def Rl (M : xM) : Prop := Enc (M 150) M 1 ∧ Z916 (M 150) ∧ EncCol M 1 ∧ RefK M ∧ Hist M ∧ Slots M ∧ Txt M
theorem Rl_vw {M : xM} (h : Rl M) : Vw (M 150) M := ⟨trivial, h.1, h.2.2.1, trivial⟩
theorem RefK_fr {M M2 : xM} (h : RefK M) (h1 : M2 155 = M 155) (h2 : M2 156 = M 156) : RefK M2 := ⟨fun j hj => by rw [h1]; exact h.1 j hj, fun j hj => by rw [h2]; exact h.2 j hj⟩
theorem Hist_fr {M M2 : xM} (h : Hist M) (h1 : M2 149 2 = M 149 2) (h2 : ∀ k, 18 ≤ k → k ≤ 104 → M2 k = M k) (h3 : M2 151 = M 151) : Hist M2 := by
  obtain ⟨hc, n, e, a1, a2, a3, a4, a5, a6⟩ := h
  refine ⟨fun j hj => Col_same (fun k b1 b2 => h2 k (by unfold hB at b1; omega) (by unfold hB at b2; omega)) (hc j hj), n, e, a1, a2, h1.trans a3, by rw [h2 18 (by decide) (by decide)]; exact a4, by rw [h2 18 (by decide) (by decide)]; exact a5, fun j hj => ?_⟩
  have e1 : hV M2 j = hV M j := by unfold hV; rw [h3]
  rw [e1]
  have hm : (e + 5 - n + j) % 5 < 5 := Nat.mod_lt _ (by decide)
  exact Enc_of (a6 j hj) (Lk_same (fun k b1 b2 => h2 k (by unfold hB at b1; omega) (by unfold hB at b2; omega)))
theorem Slots_fr {M M2 : xM} (h : Slots M) (h1 : ∀ k, 105 ≤ k → k ≤ 140 → M2 k = M k) (h2 : M2 152 = M 152) (h3 : M2 153 = M 153) : Slots M2 := by
  obtain ⟨hc, hs⟩ := h
  refine ⟨fun s hs => Col_same (fun k b1 b2 => h1 k (by unfold sB at b1; omega) (by unfold sB at b2; omega)) (hc s hs), fun s hs2 => ?_⟩
  have e1 : sV M2 s = sV M s := by unfold sV; rw [h2]
  rw [e1, h3, h1 (105 + 18 * s) (by omega) (by omega)]
  rcases hs s hs2 with q | ⟨q1, q2, q3⟩
  · exact Or.inl q
  · exact Or.inr ⟨q1, q2, Enc_of q3 (Lk_same (fun k b1 b2 => h1 k (by unfold sB at b1; omega) (by unfold sB at b2; omega)))⟩
theorem Txt_fr {M M2 : xM} (h : Txt M) (h1 : M2 141 2 = M 141 2) (h2 : M2 142 = M 142) (h3 : M2 149 6 = M 149 6) (h4 : M2 154 = M 154) : Txt M2 := by
  obtain ⟨L, a1, a2, a3, a4⟩ := h
  exact ⟨L, a1, h1.trans a2, h3.trans a3, fun j hj => by rw [h2, h4]; exact a4 j hj⟩
theorem rec51 {s : Nat} (hs : s < 5) : ∀ (d i : Nat) (M : xM) (fu : Nat), i + d = 916 → d < fu → M 149 2 = nI s →
    f_X9_record_51 fu M (nI i) = some (fun a b => if a = 149 ∧ b = 2 then nI (s + 1) else if a = 151 ∧ 916 * s + i ≤ b ∧ b < 916 * s + 916 then M 150 (b - 916 * s) else M a b) := by
  intro d
  induction d with
  | zero =>
    intro i M fu h1 h2 h3
    obtain ⟨f, rfl⟩ : ∃ f, fu = f + 1 := ⟨fu - 1, by omega⟩
    have hi : i = 916 := by omega
    subst hi
    rw [f_X9_record_51, if_pos (by show nI 916 ≤ nI 916; rw [le_n (by decide) (by decide)]; exact Nat.le_refl _), xl_e, h3, ir_1]
    congr 1
    funext a b
    by_cases hc : a = 149 ∧ b = 2
    · simp [xw, hc]
    · have : ¬ (a = 151 ∧ 916 * s + 916 ≤ b ∧ b < 916 * s + 916) := by omega
      simp only [xw, hc, this, if_false]
  | succ d ih =>
    intro i M fu h1 h2 h3
    obtain ⟨f, rfl⟩ : ∃ f, fu = f + 1 := ⟨fu - 1, by omega⟩
    rw [f_X9_record_51, if_neg (by show ¬ nI 916 ≤ nI i; rw [le_n (by decide) (by omega)]; omega), xgd_t _ (xin_n (by omega) (by omega)), h3, im_916, nI_add, xgd_t _ (xin_n (by omega) (by omega)), xl_e, cl_n (by omega), cl_n (by omega), xl_e, ir_1]
    rw [ih (i + 1) _ f (by omega) (by omega) (by simp [xw, h3])]
    congr 1
    funext a b
    by_cases hc : a = 149 ∧ b = 2
    · simp [hc]
    · simp only [hc, if_false]
      by_cases ha : a = 151
      · subst ha
        have e150 : xw M 151 (916 * s + i) (M 150 i) 150 = M 150 := xw_ne (by decide)
        rw [e150]
        by_cases hb : 916 * s + i ≤ b ∧ b < 916 * s + 916
        · rw [if_pos (show 151 = 151 ∧ 916 * s + i ≤ b ∧ b < 916 * s + 916 from ⟨rfl, hb⟩)]
          by_cases hb2 : b = 916 * s + i
          · have h9 : ¬ (151 = 151 ∧ 916 * s + (i + 1) ≤ b ∧ b < 916 * s + 916) := by omega
            rw [if_neg h9, hb2]
            have : 916 * s + i - 916 * s = i := by omega
            simp [xw, this]
          · rw [if_pos (show 151 = 151 ∧ 916 * s + (i + 1) ≤ b ∧ b < 916 * s + 916 by omega)]
        · rw [if_neg (show ¬ (151 = 151 ∧ 916 * s + i ≤ b ∧ b < 916 * s + 916) from fun q => hb q.2), if_neg (show ¬ (151 = 151 ∧ 916 * s + (i + 1) ≤ b ∧ b < 916 * s + 916) by omega)]
          have : ¬ b = 916 * s + i := by omega
          simp [xw, this]
      · simp [ha, xw]
theorem rec10 : ∀ (d i : Nat) (M : xM) (fu : Nat), i + d = 3664 → d < fu → M 149 2 = nI 5 →
    f_X9_record_10 fu M (nI i) = f_X9_record_49 (fun a b => if a = 149 ∧ b = 2 then nI 4 else if a = 151 ∧ i ≤ b ∧ b < 3664 then M 151 (b + 916) else M a b) := by
  intro d
  induction d with
  | zero =>
    intro i M fu h1 h2 h3
    obtain ⟨f, rfl⟩ : ∃ f, fu = f + 1 := ⟨fu - 1, by omega⟩
    have hi : i = 3664 := by omega
    subst hi
    rw [f_X9_record_10, if_pos (by show nI 3664 ≤ nI 3664; rw [le_n (by decide) (by decide)]; exact Nat.le_refl _), xl_e, h3]
    congr 1
    funext a b
    by_cases hc : a = 149 ∧ b = 2
    · simp only [xw, hc, and_self, if_true]; rfl
    · have : ¬ (a = 151 ∧ 3664 ≤ b ∧ b < 3664) := by omega
      simp only [xw, hc, this, if_false]
  | succ d ih =>
    intro i M fu h1 h2 h3
    obtain ⟨f, rfl⟩ : ∃ f, fu = f + 1 := ⟨fu - 1, by omega⟩
    rw [f_X9_record_10, if_neg (by show ¬ nI 3664 ≤ nI i; rw [le_n (by decide) (by omega)]; omega), ir_916, xgd_t _ (xin_n (by omega) (by omega)), xgd_t _ (xin_n (by omega) (by omega)), xl_e, cl_n (by omega), cl_n (by omega), xl_e, ir_1]
    rw [ih (i + 1) _ f (by omega) (by omega) (by simp [xw, h3])]
    congr 1
    funext a b
    by_cases hc : a = 149 ∧ b = 2
    · simp [hc]
    · simp only [hc, if_false]
      by_cases ha : a = 151
      · subst ha
        by_cases hb : i ≤ b ∧ b < 3664
        · rw [if_pos (show 151 = 151 ∧ i ≤ b ∧ b < 3664 from ⟨rfl, hb⟩)]
          by_cases hb2 : b = i
          · have h9 : ¬ (151 = 151 ∧ i + 1 ≤ b ∧ b < 3664) := by omega
            rw [if_neg h9, hb2]
            simp [xw]
          · rw [if_pos (show 151 = 151 ∧ i + 1 ≤ b ∧ b < 3664 by omega)]
            have : ¬ b + 916 = i := by omega
            simp [xw, this]
        · rw [if_neg (show ¬ (151 = 151 ∧ i ≤ b ∧ b < 3664) from fun q => hb q.2), if_neg (show ¬ (151 = 151 ∧ i + 1 ≤ b ∧ b < 3664) by omega)]
          have : ¬ b = i := by omega
          simp [xw, this]
      · simp [ha, xw]
/-- record, as a function -/
def recM (s : Nat) (M : xM) : xM := fun a b =>
  if s = 5 then (if a = 149 ∧ b = 2 then nI 5 else if a = 151 ∧ b < 3664 then M 151 (b + 916) else if a = 151 ∧ b < 4580 then M 150 (b - 3664) else M a b)
  else (if a = 149 ∧ b = 2 then nI (s + 1) else if a = 151 ∧ 916 * s ≤ b ∧ b < 916 * s + 916 then M 150 (b - 916 * s) else M a b)
theorem rec_e {s : Nat} (hs : s ≤ 5) {M : xM} (h : M 149 2 = nI s) : f_X9_record M = some (recM s M) := by
  unfold f_X9_record
  by_cases h5 : s = 5
  · subst h5
    rw [h, if_pos (show nI 5 = (5 : Int32) from rfl), xl_e]
    show f_X9_record_10 xFU M (nI 0) = _
    rw [rec10 3664 0 M xFU (by decide) (by decide) h]
    unfold f_X9_record_49
    rw [xl_e]
    show f_X9_record_51 xFU _ (nI 0) = _
    rw [rec51 (s := 4) (by decide) 916 0 _ xFU (by decide) (by decide) (by simp)]
    congr 1
    funext a b
    unfold recM
    rw [if_pos rfl]
    by_cases hc : a = 149 ∧ b = 2
    · simp [hc]
    · simp only [hc, if_false]
      by_cases ha : a = 151
      · subst ha
        by_cases hb : b < 3664
        · have g1 : ¬ (151 = 151 ∧ 916 * 4 + 0 ≤ b ∧ b < 916 * 4 + 916) := by omega
          simp [g1, hb]
          intro q; omega
        · by_cases hb2 : b < 4580
          · have g1 : (151 = 151 ∧ 916 * 4 + 0 ≤ b ∧ b < 916 * 4 + 916) := by omega
            rw [if_pos g1]
            simp [hb, hb2]
          · have g1 : ¬ (151 = 151 ∧ 916 * 4 + 0 ≤ b ∧ b < 916 * 4 + 916) := by omega
            rw [if_neg g1]
            simp [hb, hb2]
      · simp [ha]
  · have hn : ¬ nI s = 5 := by
      show ¬ nI s = nI 5
      rw [eq_n (by omega) (by decide)]
      exact h5
    rw [h, if_neg hn]
    unfold f_X9_record_49
    rw [xl_e]
    show f_X9_record_51 xFU M (nI 0) = _
    rw [rec51 (by omega) 916 0 M xFU (by decide) (by decide) h]
    congr 1
    funext a b
    unfold recM
    rw [if_neg h5]
    rfl
theorem xHist_e {e : Nat} (he : e < 5) : xHist (nI e) = some (hB e) := by
  have : ∀ e : Fin 5, xHist (nI e.val) = some (hB e.val) := by decide +kernel
  exact this ⟨e, he⟩
theorem xStaB_e {e : Nat} (he : e < 5) : xStaB (hB e) = true := by
  have : ∀ e : Fin 5, xStaB (hB e.val) = true := by decide +kernel
  exact this ⟨e, he⟩
theorem stateAt_e {M : xM} {e : Nat} (he : e < 5) : f_X1_stateAt M (nI e) = some (some (hB e)) := by
  unfold f_X1_stateAt
  rw [if_neg (nI_pos (by omega)), if_neg (by show ¬ nI 5 ≤ nI e; rw [le_n (by decide) (by omega)]; omega), xgd_t _ (xin_n he (by omega)), xHist_e he]
/-- what keep leaves -/
def Kp (M Mk : xM) (h e : Nat) : Prop := (∀ k, ¬ (k = 18 ∨ (20 ≤ k ∧ k ≤ 104)) → Mk k = M k) ∧ Mk 18 1 = nI ((e + 1) % 5) ∧ Mk 18 2 = nI (min (h + 1) 5) ∧ Lk (hB e) 1 M Mk ∧ (∀ k, ¬ k = 18 → (k < hB e ∨ hB e + 16 < k) → Mk k = M k) ∧ ∀ j, j < 5 → EncCol Mk (hB j)
theorem keep_e {M : xM} {h e : Nat} (hc : ∀ j, j < 5 → EncCol M (hB j)) (h1 : EncCol M 1) (hh : h ≤ 5) (he : e < 5) (e1 : M 18 1 = nI e) (e2 : M 18 2 = nI h) : ∃ Mk, f_X1_keep M = some Mk ∧ Kp M Mk h e := by
  have hb : 20 ≤ hB e ∧ hB e ≤ 88 := by unfold hB; omega
  obtain ⟨M4, c1, c2⟩ := cp_e (b := hB e) (o := 1) (M := M) (by unfold hB; omega)
  have m18 : M4 18 = M 18 := c2.2.2.2.2.2 18 (by omega)
  have hx : (if (5 : Int32) ≤ nI e + 1 then f_X1_keep_39 M4 0 else f_X1_keep_39 M4 (nI e + 1)) = f_X1_keep_39 M4 (nI ((e + 1) % 5)) := by
    rw [ir_1]
    by_cases h5 : e = 4
    · subst h5
      rfl
    · rw [if_neg (by show ¬ nI 5 ≤ _; rw [le_n (by decide) (by omega)]; omega), Nat.mod_eq_of_lt (by omega)]
  have hy : xmn (nI h + 1) 5 = nI (min (h + 1) 5) := by
    rw [ir_1]
    unfold xmn
    show (if nI 5 < nI (h + 1) then nI 5 else nI (h + 1)) = _
    by_cases q : 5 < h + 1
    · rw [if_pos (by rw [lt_n (by decide) (by omega)]; exact q), Nat.min_eq_right (by omega)]
    · rw [if_neg (by rw [lt_n (by decide) (by omega)]; exact q), Nat.min_eq_left (by omega)]
  refine ⟨xw (xw M4 18 1 (nI ((e + 1) % 5))) 18 2 (nI (min (h + 1) 5)), ?_, ?_⟩
  · unfold f_X1_keep
    rw [e1, stateAt_e he, xb_e]
    show xgd (xStaB (hB e)) _ = _
    rw [xgd_t _ (xStaB_e he), c1, xb_e]
    unfold f_X1_keep_18
    rw [m18, e1, hx]
    unfold f_X1_keep_39
    rw [xl_e, xl_e]
    have : (xw M4 18 1 (nI ((e + 1) % 5))) 18 2 = nI h := by simp [xw, m18, e2]
    rw [this, hy]
  · have g : ∀ k, k ≠ 18 → (xw (xw M4 18 1 (nI ((e + 1) % 5))) 18 2 (nI (min (h + 1) 5))) k = M4 k := fun k hk => by rw [xw_ne hk, xw_ne hk]
    refine ⟨fun k hk => ?_, ?_, ?_, ?_, fun k hk hk2 => ?_, fun j hj => ?_⟩
    · rw [g k (by omega)]; exact c2.2.2.2.2.2 k (by omega)
    · simp [xw]
    · simp [xw]
    · obtain ⟨l1, l2, l3, l4, -, -⟩ := c2
      exact ⟨fun i hi => by rw [g _ (by omega)]; exact l1 i hi, fun i j hi hj => by rw [g _ (by omega)]; exact l2 i j hi hj, by rw [g _ (by omega)]; exact l3, by rw [g _ (by omega)]; exact l4⟩
    · rw [g k hk]; exact c2.2.2.2.2.2 k hk2
    · have hj1 : 20 ≤ hB j := by unfold hB; omega
      by_cases q : j = e
      · subst q
        have h9 : EncCol M4 (hB j) := Col_cp c2 (hc j hj) h1
        exact Col_same (fun k b1 b2 => g k (by omega)) h9
      · refine Col_same (fun k b1 b2 => ?_) (hc j hj)
        rw [g k (by omega)]
        exact c2.2.2.2.2.2 k (by unfold hB at *; omega)
/-- record behind keep: the histories agree again -/
theorem keep_rec {M Mk M1 : xM} {h e : Nat} (hE : Enc (M 150) M 1) (hz : Z916 (M 150)) (hh : h ≤ 5) (he : e < 5) (e3 : M 149 2 = nI h) (hH : ∀ j, j < h → Enc (hV M j) M (hB ((e + 5 - h + j) % 5))) (hk : Kp M Mk h e) (m149 : M1 149 2 = M 149 2) (m150 : M1 150 = M 150) (m151 : M1 151 = M 151) :
    f_X9_record M1 = some (recM h M1) ∧ ∀ M2 : xM, (∀ k, 18 ≤ k → k ≤ 104 → M2 k = Mk k) → M2 149 2 = recM h M1 149 2 → M2 151 = recM h M1 151 → Hist M2 := by
  obtain ⟨k1, k2, k3, k4, k5, k6⟩ := hk
  refine ⟨rec_e hh (by rw [m149]; exact e3), fun M2 f1 f2 f3 => ?_⟩
  have n2 : M2 149 2 = nI (min (h + 1) 5) := by
    rw [f2]
    unfold recM
    by_cases q : h = 5
    · subst q; simp
    · rw [if_neg q, Nat.min_eq_left (by omega)]; simp
  refine ⟨fun j hj => Col_same (fun k b1 b2 => f1 k (by unfold hB at b1; omega) (by unfold hB at b2; omega)) (k6 j hj), min (h + 1) 5, (e + 1) % 5, by omega, Nat.mod_lt _ (by decide), n2, by rw [f1 18 (by decide) (by decide)]; exact k3, by rw [f1 18 (by decide) (by decide)]; exact k2, fun j hj => ?_⟩
  have hv : ∀ i, i < 916 → M2 151 (916 * j + i) = recM h M1 151 (916 * j + i) := fun i _ => by rw [f3]
  by_cases q : j = min (h + 1) 5 - 1
  · -- the newest
    have ix : ((e + 1) % 5 + 5 - min (h + 1) 5 + j) % 5 = e := by omega
    rw [ix]
    have eV : hV M2 j = M 150 := by
      funext i
      unfold hV
      by_cases hi : i < 916
      · rw [if_pos hi, hv i hi]
        unfold recM
        by_cases q5 : h = 5
        · subst q5
          have g1 : ¬ (916 * j + i < 3664) := by omega
          have g2 : 916 * j + i < 4580 := by omega
          have g3 : 916 * j + i - 3664 = i := by omega
          simp [g1, g2, g3, m150]
        · have g1 : 916 * h ≤ 916 * j + i ∧ 916 * j + i < 916 * h + 916 := by omega
          have g3 : 916 * j + i - 916 * h = i := by omega
          rw [if_neg q5, if_neg (by omega), if_pos ⟨rfl, g1⟩, g3, m150]
      · rw [if_neg hi, hz i (by omega)]
    rw [eV]
    obtain ⟨l1, l2, l3, l4⟩ := k4
    have hb : 20 ≤ hB e ∧ hB e ≤ 88 := by unfold hB; omega
    exact Enc_of hE ⟨fun i hi => by rw [f1 _ (by omega) (by omega)]; exact l1 i hi, fun i j hi hj => by rw [f1 _ (by omega) (by omega)]; exact l2 i j hi hj, by rw [f1 _ (by omega) (by omega)]; exact l3, by rw [f1 _ (by omega) (by omega)]; exact l4⟩
  · -- an elder one
    by_cases q5 : h = 5
    · subst q5
      have hj4 : j < 4 := by omega
      have ix : ((e + 1) % 5 + 5 - min (5 + 1) 5 + j) % 5 = (e + 5 - 5 + (j + 1)) % 5 := by omega
      rw [ix]
      have eV : hV M2 j = hV M (j + 1) := by
        funext i
        unfold hV
        by_cases hi : i < 916
        · rw [if_pos hi, if_pos hi, hv i hi]
          unfold recM
          have g1 : (916 * j + i < 3664) := by omega
          have g3 : 916 * j + i + 916 = 916 * (j + 1) + i := by omega
          simp [g1, g3, m151]
        · rw [if_neg hi, if_neg hi]
      rw [eV]
      have hm : (e + 5 - 5 + (j + 1)) % 5 < 5 := Nat.mod_lt _ (by decide)
      have hne : (e + 5 - 5 + (j + 1)) % 5 ≠ e := by omega
      refine Enc_of (hH (j + 1) (by omega)) (Lk_same (fun k b1 b2 => ?_))
      generalize (e + 5 - 5 + (j + 1)) % 5 = x at *
      rw [f1 k (by unfold hB at b1; omega) (by unfold hB at b2; omega)]
      exact k5 k (by unfold hB at b1; omega) (by unfold hB at *; omega)
    · have hjh : j < h := by omega
      have ix : ((e + 1) % 5 + 5 - min (h + 1) 5 + j) % 5 = (e + 5 - h + j) % 5 := by omega
      rw [ix]
      have eV : hV M2 j = hV M j := by
        funext i
        unfold hV
        by_cases hi : i < 916
        · rw [if_pos hi, if_pos hi, hv i hi]
          unfold recM
          rw [if_neg q5, if_neg (by omega), if_neg (by omega), m151]
        · rw [if_neg hi, if_neg hi]
      rw [eV]
      have hm : (e + 5 - h + j) % 5 < 5 := Nat.mod_lt _ (by decide)
      have hne : (e + 5 - h + j) % 5 ≠ e := by omega
      refine Enc_of (hH j hjh) (Lk_same (fun k b1 b2 => ?_))
      generalize (e + 5 - h + j) % 5 = x at *
      rw [f1 k (by unfold hB at b1; omega) (by unfold hB at b2; omega)]
      exact k5 k (by unfold hB at b1; omega) (by unfold hB at *; omega)
