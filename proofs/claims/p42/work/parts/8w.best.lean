/-! the law's check of the best passes -/
theorem b92 {V : Rw} {M : xM} (hv : Vw V M) {r : Nat} (hr : r < nN V 3) (k : Int32 → Int32 → Option Int32) (i3 most : Int32) (hb : ∀ p, p < nN V 4 → qlV V p r < most ∨ (qlV V p r = most ∧ (most = 0 ∨ i3 ≤ nI p))) : ∀ (d p fu : Nat), p + d = nN V 4 → d < fu → f_L_best_92 M k fu 1 (nI r) i3 most (nI p) = k 1 (nI (r + 1)) := by
  have ho := v_ok hv
  have c4 := ok_c4 ho
  have one : ¬ (1 : Int32) = 0 := by decide
  intro d
  induction d with
  | zero =>
    intro p fu e1 e2
    obtain ⟨g, rfl⟩ : ∃ g, fu = g + 1 := ⟨fu - 1, by omega⟩
    have : p = nN V 4 := by omega
    rw [f_L_best_92, t_4 hv, xb_n, ok_n4 ho, this, if_pos (by rw [le_n (by omega) (by omega)]; exact Nat.le_refl _)]
    unfold f_L_best_153
    rw [xl_n, nI_1]
  | succ d ih =>
    intro p fu e1 e2
    obtain ⟨g, rfl⟩ : ∃ g, fu = g + 1 := ⟨fu - 1, by omega⟩
    have hp : p < nN V 4 := by omega
    have nx := ih (p + 1) g (by omega) (by omega)
    have r1 : f_L_best_141 M k (f_L_best_92 M k g) 1 (nI r) i3 most (nI p) = k 1 (nI (r + 1)) := by
      unfold f_L_best_141 f_L_best_146
      rw [xl_n, xl_n, nI_1]
      exact nx
    rw [f_L_best_92, t_4 hv, xb_n, ok_n4 ho, if_neg (by rw [le_n (by omega) (by omega)]; omega), if_neg one, l_qual hv hp hr, xb_n]
    rcases hb p hp with q | ⟨q, w⟩
    · rw [if_pos q, r1]
    · by_cases q2 : qlV V p r < most
      · rw [if_pos q2, r1]
      · rw [if_neg q2, xb_n, if_pos q]
        by_cases q3 : most = 0
        · rw [if_pos q3, r1]
        · rcases w with w | w
          · exact absurd w q3
          · rw [if_neg q3, if_neg (Int32.not_lt.mpr w), r1]
theorem b4c {V : Rw} {M : xM} (hv : Vw V M) (h : I42 V) : ∀ (d r fu : Nat), r + d = nN V 3 → d < fu → f_L_best_4 M fu 1 (nI r) = some 1 := by
  have ho := v_ok hv
  have c3 := ok_c3 ho
  have c4 := ok_c4 ho
  have one : ¬ (1 : Int32) = 0 := by decide
  intro d
  induction d with
  | zero =>
    intro r fu e1 e2
    obtain ⟨g, rfl⟩ : ∃ g, fu = g + 1 := ⟨fu - 1, by omega⟩
    have : r = nN V 3 := by omega
    rw [f_L_best_4, t_3 hv, xb_n, ok_n3 ho, this, if_pos (by rw [le_n (by omega) (by omega)]; exact Nat.le_refl _)]
    rfl
  | succ d ih =>
    intro r fu e1 e2
    obtain ⟨g, rfl⟩ : ∃ g, fu = g + 1 := ⟨fu - 1, by omega⟩
    have hr : r < nN V 3 := by omega
    have nx := ih (r + 1) g (by omega) (by omega)
    rw [f_L_best_4, t_3 hv, xb_n, ok_n3 ho, if_neg (by rw [le_n (by omega) (by omega)]; omega), if_neg one, l_best hv hr, xb_n, xl_n]
    rcases bp_spec ho r (nN V 4) (Nat.le_refl _) with ⟨h1, -, h3⟩ | ⟨m, h1, h2, -, h4, h5⟩
    · rw [h1, if_neg (by decide)]
      unfold f_L_best_37
      rw [xl_n, if_pos rfl]
      unfold f_L_best_83 f_L_best_88
      rw [xl_n, xl_n]
      exact (b92 hv hr _ _ _ (fun p hp => Or.inr ⟨h3 p hp, Or.inl rfl⟩) (nN V 4) 0 xFU (by omega) (by unfold xFU; omega)).trans nx
    · have ng : ¬ nI m = -6 := fun z => by
        have := nI_pos (n := m) (by omega)
        rw [z] at this
        exact this (by decide)
      have hR := ho.2.2.2.1 r hr
      obtain ⟨e1', e2', e3'⟩ := trk ho hr
      have sc : V (420 + 9 * m) = V (84 + 5 * r) := by
        unfold qlV at h4
        split at h4
        · assumption
        · exact absurd h4 (by decide)
      have sub : (V (84 + 5 * r + 1) &&& (tkO V m ^^^ (-1))) = 0 := by
        rw [e1', tk_th]
        refine th_sub _ _ _ _ ⟨nN V (84 + 5 * r + 1), e2'⟩ (fun t ht => ?_)
        rw [b4_t V m t.isLt]
        unfold qlV at h4
        rw [if_pos sc] at h4
        have := mn_le (s := 100) (f := fun t => V (420 + 9 * m + 5 + t)) (m := nN V (84 + 5 * r + 1)) (n := 4) t.isLt ht
        exact decide_eq_true (Std.lt_of_lt_of_le h4 this)
      rw [h2, if_pos (nI_pos' (by omega)), l_qual hv h1 hr, xb_n]
      unfold f_L_best_37
      rw [xl_n, if_neg ng, if_neg (Int32.not_le.mpr h4), l_pas_0 hv h1, xb_n, l_rec_0 hv hr, xb_n, if_pos sc, l_rec_1 hv hr, xb_n, l_pas_5 hv h1, xb_n, if_pos sub]
      unfold f_L_best_83 f_L_best_88
      rw [xl_n, xl_n]
      refine (b92 hv hr _ _ _ (fun p hp => ?_) (nN V 4) 0 xFU (by omega) (by unfold xFU; omega)).trans nx
      rcases h5 p hp with q | ⟨q, w⟩
      · exact Or.inl q
      · exact Or.inr ⟨q, Or.inr (by rw [le_n (by omega) (by omega)]; exact w)⟩
theorem ck_best {V : Rw} {M : xM} (hv : Vw V M) (h : I42 V) : f_L_best M = some 1 := by
  unfold f_L_best
  rw [xl_n, xl_n]
  exact b4c hv h (nN V 3) 0 xFU (by omega) (by have := ok_c3 (v_ok hv); unfold xFU; omega)
