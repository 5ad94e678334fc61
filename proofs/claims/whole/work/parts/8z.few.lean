/-! fewestPasses: the reference -/
theorem smd_fin : ∀ h : Fin 16, ((nI h.val &&& 31 : Int32).toBitVec.smod 32).toNat = h.val := by decide +kernel
theorem bit9 {m h : Nat} (hm : m < 65536) (hh : h < 16) : ((((nI m : Int32) >>> ((nI h : Int32) &&& 31)) &&& 1) = 1) = (m.testBit h = true) := by
  rw [pk_shrN (by omega) _ h (smd_fin ⟨h, hh⟩), li_1, i32_and, Nat.and_one_is_mod]
  have l : m / 2 ^ h % 2 < 2 := Nat.mod_lt _ (by decide)
  rw [eq_n (by omega) (by omega), Nat.testBit_eq_decide_div_mod_eq]
  exact propext ⟨fun w => decide_eq_true w, fun w => of_decide_eq_true w⟩
def cvS (m t : Nat) : Bool := aN (fun h => m.testBit h && sbM t h) 16
def cvB (V : Nat → Int32) (c m : Nat) : Nat → Bool
  | 0 => true
  | r + 1 => cvB V c m r && (decide (¬ V (84 + 5 * r) = nI c) || cvS m (nN V (84 + 5 * r + 1)))
theorem cv42 {V : Nat → Int32} {M : xM} (e : M 150 = V) (ho : Ok V) {c m r : Nat} (hm : m < 65536) (hr : r < nN V 3) (k5 : Int32 → Int32 → Int32 → Int32 → Option Int32) (al is : Bool) : ∀ (d h fu : Nat), h + d = 16 → d < fu → 1 ≤ h → f_X9_areCovered_42 M k5 fu (nI c) (nI m) (bI (al = true)) (nI r) (bI ((is || aN (fun h => m.testBit h && sbM (nN V (84 + 5 * r + 1)) h) h) = true)) (nI h) = k5 (nI c) (nI m) (bI ((al && (is || cvS m (nN V (84 + 5 * r + 1)))) = true)) (nI (r + 1)) := by
  have c3 := ok_c3 ho
  obtain ⟨t1, t2, t3⟩ := trk ho hr
  intro d
  induction d with
  | zero =>
    intro h fu e1 e2 e3
    obtain ⟨g, rfl⟩ : ∃ g, fu = g + 1 := ⟨fu - 1, by omega⟩
    have : h = 16 := by omega
    subst this
    have ec : aN (fun h => m.testBit h && sbM (nN V (84 + 5 * r + 1)) h) 16 = cvS m (nN V (84 + 5 * r + 1)) := rfl
    have e112 : ∀ a b, f_X9_areCovered_112 M k5 (nI c) (nI m) a (nI r) b (nI 16) = k5 (nI c) (nI m) 0 (nI (r + 1)) := fun a b => by
      unfold f_X9_areCovered_112 f_X9_areCovered_113
      rw [xl_n, xl_n, ir_1]
    rw [f_X9_areCovered_42, if_pos (by decide), ec]
    cases al with
    | false =>
      rw [if_pos (show bI (false = true) = 0 from if_neg (by decide)), e112]
      rfl
    | true =>
      rw [if_neg (show ¬ bI (true = true) = 0 by decide), ifb0, Bool.true_and]
      by_cases w : (is || cvS m (nN V (84 + 5 * r + 1))) = true
      · rw [if_pos w, show bI ((is || cvS m (nN V (84 + 5 * r + 1))) = true) = 1 from if_pos w]
        unfold f_X9_areCovered_113
        rw [xl_n, xl_n, ir_1]
      · rw [if_neg w, e112, show bI ((is || cvS m (nN V (84 + 5 * r + 1))) = true) = 0 from if_neg w]
  | succ d ih =>
    intro h fu e1 e2 e3
    obtain ⟨g, rfl⟩ : ∃ g, fu = g + 1 := ⟨fu - 1, by omega⟩
    have p1 := ih (h + 1) g (by omega) (by omega) (by omega)
    have hs : aN (fun h => m.testBit h && sbM (nN V (84 + 5 * r + 1)) h) (h + 1) = (aN (fun h => m.testBit h && sbM (nN V (84 + 5 * r + 1)) h) h || (m.testBit h && sbM (nN V (84 + 5 * r + 1)) h)) := rfl
    rw [hs, ← Bool.or_assoc] at p1
    have b9 := bit9 hm (show h < 16 by omega)
    have sf := sb_fin ⟨nN V (84 + 5 * r + 1), t2⟩ ⟨h, by omega⟩
    have e86 : ∀ x, f_X9_areCovered_86 M k5 (f_X9_areCovered_42 M k5 g) (nI c) (nI m) (bI (al = true)) (nI r) x (nI h) = f_X9_areCovered_42 M k5 g (nI c) (nI m) (bI (al = true)) (nI r) 1 (nI (h + 1)) := fun x => by
      unfold f_X9_areCovered_86 f_X9_areCovered_91
      rw [xl_n, xl_n, ir_1]
    have e90 : ∀ x, f_X9_areCovered_90 M k5 (f_X9_areCovered_42 M k5 g) (nI c) (nI m) (bI (al = true)) (nI r) x (nI h) = f_X9_areCovered_42 M k5 g (nI c) (nI m) (bI (al = true)) (nI r) 0 (nI (h + 1)) := fun x => by
      unfold f_X9_areCovered_90 f_X9_areCovered_91
      rw [xl_n, xl_n, ir_1]
    rw [f_X9_areCovered_42, if_neg (by rw [li_16, le_n (by omega) (by omega)]; omega), ifb0, im_5, ia_84, ir_1, xin_n (by omega) (by omega), xgd_n, cl_n (by omega), e, t1, e86, e90]
    simp only [b9, sf]
    generalize (is || aN (fun h => m.testBit h && sbM (nN V (84 + 5 * r + 1)) h) h) = z at *
    cases z with
    | true =>
      rw [if_pos rfl]
      rw [Bool.true_or] at p1
      exact p1
    | false =>
      rw [if_neg (by decide)]
      rw [Bool.false_or] at p1
      by_cases w1 : m.testBit h = true
      · rw [if_pos w1]
        rw [w1, Bool.true_and] at p1
        by_cases w2 : sbM (nN V (84 + 5 * r + 1)) h = true
        · rw [if_pos w2]
          rw [w2] at p1
          exact p1
        · rw [if_neg w2]
          rw [Bool.eq_false_iff.mpr w2] at p1
          exact p1
      · rw [if_neg w1]
        rw [Bool.eq_false_iff.mpr w1, Bool.false_and] at p1
        exact p1
theorem cov9 {V : Nat → Int32} {M : xM} (e : M 150 = V) (ho : Ok V) {c m : Nat} (hc : c < 1000) (hm : m < 65536) : f_X9_areCovered M (nI c) (nI m) = some (bI (cvB V c m (nN V 3) = true)) := by
  have c3 := ok_c3 ho
  have e3 : V 3 = nI (nN V 3) := ok_n3 ho
  have key : ∀ (d r fu : Nat), r + d = nN V 3 → d < fu → f_X9_areCovered_5 M fu (nI c) (nI m) (bI (cvB V c m r = true)) (nI r) = some (bI (cvB V c m (nN V 3) = true)) := by
    intro d
    induction d with
    | zero =>
      intro r fu e1 e2
      obtain ⟨g, rfl⟩ : ∃ g, fu = g + 1 := ⟨fu - 1, by omega⟩
      have : r = nN V 3 := by omega
      subst this
      rw [f_X9_areCovered_5, show xin 3 916 = true from by decide, xgd_n, ic_3, e, e3, if_pos (by rw [le_n (by omega) (by omega)]; exact Nat.le_refl _), bI_z, xgd_n]
    | succ d ih =>
      intro r fu e1 e2
      obtain ⟨g, rfl⟩ : ∃ g, fu = g + 1 := ⟨fu - 1, by omega⟩
      have hr : r < nN V 3 := by omega
      obtain ⟨t1, t2, t3⟩ := trk ho hr
      have p1 := ih (r + 1) g (by omega) (by omega)
      have a0 : aN (fun h => m.testBit h && sbM (nN V (84 + 5 * r + 1)) h) 1 = false := by
        show (false || (m.testBit 0 && sbM (nN V (84 + 5 * r + 1)) 0)) = false
        have : sbM (nN V (84 + 5 * r + 1)) 0 = false := decide_eq_false (fun w => t3 (by rw [Nat.and_zero] at w; exact w.symm))
        rw [this, Bool.and_false]; rfl
      have s37 : ∀ is : Bool, f_X9_areCovered_37 M (f_X9_areCovered_5 M g) (nI c) (nI m) (bI (cvB V c m r = true)) (nI r) (bI (is = true)) = f_X9_areCovered_5 M g (nI c) (nI m) (bI ((cvB V c m r && (is || cvS m (nN V (84 + 5 * r + 1)))) = true)) (nI (r + 1)) := fun is => by
        unfold f_X9_areCovered_37
        rw [xl_n, xl_n]
        have := cv42 (c := c) e ho hm hr (f_X9_areCovered_5 M g) (cvB V c m r) is 15 1 xFU (by omega) (by unfold xFU; omega) (by omega)
        rw [a0, Bool.or_false] at this
        exact this
      have hs : cvB V c m (r + 1) = (cvB V c m r && (decide (¬ V (84 + 5 * r) = nI c) || cvS m (nN V (84 + 5 * r + 1)))) := rfl
      rw [hs] at p1
      rw [f_X9_areCovered_5, show xin 3 916 = true from by decide, xgd_n, ic_3, e, e3, if_neg (by rw [le_n (by omega) (by omega)]; omega), im_5, ia_84, xin_n (by omega) (by omega), xgd_n, cl_n (by omega)]
      by_cases w : V (84 + 5 * r) = nI c
      · rw [if_pos w]
        rw [decide_eq_false (fun z => z w)] at p1
        exact (s37 false).trans p1
      · rw [if_neg w]
        rw [decide_eq_true w] at p1
        exact (s37 true).trans p1
  unfold f_X9_areCovered
  rw [xl_n, xl_n]
  exact key (nN V 3) 0 xFU (by omega) (by unfold xFU; omega)
/-- the least over the sets of heard sets -/
def Rw (V : Nat → Int32) (c u : Nat) (r : Int32) (s : Nat) : Prop := (r = -6 ∧ ∀ m, m &&& u = m → s ≤ m → ¬ cvB V c m (nN V 3) = true) ∨ ∃ m, m &&& u = m ∧ cvB V c m (nN V 3) = true ∧ r = nI (pc 16 m) ∧ ∀ m', m' &&& u = m' → s ≤ m' → cvB V c m' (nN V 3) = true → pc 16 m ≤ pc 16 m'
theorem pc_le (m : Nat) : pc 16 m ≤ 16 := cN_le _ _
theorem fp129 {V : Nat → Int32} (ho : Ok V) {c u : Nat} (hc : c < 1000) (hu : u < 65536) (q : Int32) {M : xM} (e : M 150 = V) : ∀ (fu s : Nat) (b : Int32), s + 1 < fu → s &&& u = s → Rw V c u b (s + 1) → ∃ v, f_X9_fewestPasses_129 fu M (nI c) q (nI u) b (nI s) = some (v, M) ∧ Rw V c u v 0 := by
  intro fu
  induction fu with
  | zero => intro s b h; omega
  | succ g ih =>
    intro s b h1 h2 h3
    have sle : s ≤ u := by rw [← h2]; exact Nat.and_le_right
    have on := ones_n (s := s) (by omega)
    -- after this set
    have fin : ∀ b2 x, Rw V c u b2 s → ∃ v, f_X9_fewestPasses_181 (f_X9_fewestPasses_129 g) M (nI c) q (nI u) b (nI s) x b2 = some (v, M) ∧ Rw V c u v 0 := fun b2 x hb => by
      unfold f_X9_fewestPasses_181 f_X9_fewestPasses_198
      rw [xl_n]
      by_cases z : s = 0
      · subst z
        obtain ⟨f, rfl⟩ : ∃ f, g = f + 1 := ⟨g - 1, by omega⟩
        refine ⟨b2, ?_, hb⟩
        rw [if_pos (show nI 0 = (0 : Int32) from rfl), xl_n, f_X9_fewestPasses_129, if_pos (by decide)]
      · obtain ⟨t, rfl⟩ : ∃ t, s = t + 1 := ⟨s - 1, by omega⟩
        rw [if_neg (by rw [li_0, eq_n (by omega) (by omega)]; omega), xl_n, nI_pred, i32_and]
        have le : t &&& u ≤ t := Nat.and_le_left
        refine ih (t &&& u) b2 (by omega) and_sub ?_
        have en : ∀ m, m &&& u = m → (t &&& u) + 1 ≤ m → t + 1 ≤ m := fun m x1 x2 => by
          refine Nat.le_of_not_lt (fun w => ?_)
          have := sub_en 16 (t + 1) u m (by omega) h2 x1 w
          rw [Nat.add_sub_cancel] at this
          omega
        rcases hb with ⟨x1, x2⟩ | ⟨m, x1, x2, x3, x4⟩
        · exact Or.inl ⟨x1, fun m y1 y2 => x2 m y1 (en m y1 y2)⟩
        · exact Or.inr ⟨m, x1, x2, x3, fun m' y1 y2 y3 => x4 m' y1 (en m' y1 y2) y3⟩
    have keep : (cvB V c s (nN V 3) = true → ∃ m, m &&& u = m ∧ cvB V c m (nN V 3) = true ∧ b = nI (pc 16 m) ∧ pc 16 m ≤ pc 16 s) → Rw V c u b s := fun hk => by
      rcases h3 with ⟨x1, x2⟩ | ⟨m, x1, x2, x3, x4⟩
      · refine Or.inl ⟨x1, fun m y1 y2 y3 => ?_⟩
        by_cases z : m = s
        · rw [z] at y3
          obtain ⟨m0, _, _, w, _⟩ := hk y3
          rw [x1] at w
          exact no6 (k := pc 16 m0) (Nat.lt_of_le_of_lt (pc_le m0) (by decide)) w.symm
        · exact x2 m y1 (by omega) y3
      · refine Or.inr ⟨m, x1, x2, x3, fun m' y1 y2 y3 => ?_⟩
        by_cases z : m' = s
        · rw [z] at y3 ⊢
          obtain ⟨m0, _, _, w, w2⟩ := hk y3
          have a := pc_le m
          have b := pc_le m0
          rw [x3, eq_n (by omega) (by omega)] at w
          omega
        · exact x4 m' y1 (by omega) y3
    have take : cvB V c s (nN V 3) = true → (∀ m, m &&& u = m → s + 1 ≤ m → cvB V c m (nN V 3) = true → pc 16 s ≤ pc 16 m) → Rw V c u (nI (pc 16 s)) s := fun hk hl => by
      refine Or.inr ⟨s, h2, hk, rfl, fun m' y1 y2 y3 => ?_⟩
      by_cases z : m' = s
      · rw [z]; exact Nat.le_refl _
      · exact hl m' y1 (by omega) y3
    have s1 : (∀ m, m &&& u = m → s + 1 ≤ m → cvB V c m (nN V 3) = true → pc 16 s ≤ pc 16 m) → (cvB V c s (nN V 3) = false → Rw V c u b s) → ∃ v, f_X9_fewestPasses_149 (f_X9_fewestPasses_129 g) M (nI c) q (nI u) b (nI s) = some (v, M) ∧ Rw V c u v 0 := fun hl hn => by
      unfold f_X9_fewestPasses_149 f_X9_fewestPasses_154 f_X9_fewestPasses_179
      rw [xl_n, if_neg (by decide), cov9 e ho hc (by omega), xb_n, ifb0]
      by_cases w : cvB V c s (nN V 3) = true
      · rw [if_pos w, on, xb_n]
        exact fin _ _ (take w hl)
      · rw [if_neg w]
        exact fin _ _ (hn (Bool.eq_false_iff.mpr w))
    rw [f_X9_fewestPasses_129, if_neg (nI_pos (by omega))]
    rcases h3 with ⟨x1, x2⟩ | ⟨m, x1, x2, x3, x4⟩
    · rw [if_pos (show b < 0 by rw [x1]; decide)]
      exact s1 (fun m y1 y2 y3 => absurd y3 (x2 m y1 y2)) (fun w => keep (fun z => by rw [w] at z; exact absurd z Bool.false_ne_true))
    · have pm := pc_le m
      have ps := pc_le s
      rw [if_neg (show ¬ b < 0 by rw [x3]; exact nI_pos (by omega)), on, xb_n]
      by_cases w : pc 16 m ≤ pc 16 s
      · rw [if_pos (show b ≤ nI (pc 16 s) by rw [x3, le_n (by omega) (by omega)]; exact w)]
        unfold f_X9_fewestPasses_154 f_X9_fewestPasses_179
        rw [xl_n, if_pos rfl]
        exact fin _ _ (keep (fun _ => ⟨m, x1, x2, x3, w⟩))
      · rw [if_neg (show ¬ b ≤ nI (pc 16 s) by rw [x3, le_n (by omega) (by omega)]; exact w)]
        exact s1 (fun m' y1 y2 y3 => by have := x4 m' y1 y2 y3; omega) (fun w => keep (fun z => by rw [w] at z; exact absurd z Bool.false_ne_true))
