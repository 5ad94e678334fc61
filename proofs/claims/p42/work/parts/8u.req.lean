/-! the law's check of the requests -/
theorem q105 {V : Rw} {M : xM} (hv : Vw V M) {a b : Nat} (ha : a < nN V 6) (hb : b < nN V 6) (oa : V (756 + 10 * a) = 0) (hd : V 0 ≤ V (756 + 10 * a + 7)) (hc : a = b ∨ cbB V b a = true) (k : Int32 → Int32 → Int32 → Int32 → Option Int32) (i1 i2 i4 : Int32) : f_L_requests_105 M k i1 i2 1 i4 (nI a) (nI b) = k i1 i2 1 (i4 + 1) := by
  have ho := v_ok hv
  have c6 := ok_c6 ho
  have qa := okQ ho ha
  have qb := okQ ho hb
  have hc' : (V (756 + 10 * b + 7)).toInt < (V (756 + 10 * a + 7)).toInt ∨ ((V (756 + 10 * b + 7)).toInt = (V (756 + 10 * a + 7)).toInt ∧ ((V (756 + 10 * a + 5)).toInt < (V (756 + 10 * b + 5)).toInt ∨ ((V (756 + 10 * a + 5)).toInt = (V (756 + 10 * b + 5)).toInt ∧ ((V (756 + 10 * a + 6)).toInt < (V (756 + 10 * b + 6)).toInt ∨ ((V (756 + 10 * a + 6)).toInt = (V (756 + 10 * b + 6)).toInt ∧ b ≤ a))))) := by
    rcases hc with rfl | hc
    · omega
    · have := (cb_iff ho hb ha).mp hc
      omega
  obtain ⟨d1, d2, d3⟩ := sub0 (rg_up qa.2.2.2.2.2.2.2.2.1 (by decide) (by decide)) (rg_up qb.2.2.2.2.2.2.2.2.1 (by decide) (by decide))
  obtain ⟨u1, u2, u3⟩ := sub0 (rg_up qb.2.2.2.2.2.2.1 (by decide) (by decide)) (rg_up qa.2.2.2.2.2.2.1 (by decide) (by decide))
  obtain ⟨w1, w2, w3⟩ := sub0 (rg_up qb.2.2.2.2.2.2.2.1 (by decide) (by decide)) (rg_up qa.2.2.2.2.2.2.2.1 (by decide) (by decide))
  have le : ∀ x y : Int32, x.toInt ≤ y.toInt → x ≤ y := fun x y h => Int32.le_iff_toInt_le.mpr h
  have el : ∀ x y : Int32, x ≤ y → x.toInt ≤ y.toInt := fun x y h => Int32.le_iff_toInt_le.mp h
  have en : ∀ x y : Int32, x.toInt = y.toInt → x = y := fun x y h => Int32.toInt_inj.mp h
  have one : ¬ (1 : Int32) = 0 := by decide
  have r5 : ∀ i5 i6 i7 i8 i9 : Int32, f_L_requests_235 M k i1 i2 1 i4 i5 i6 i7 i8 i9 = k i1 i2 1 (i4 + 1) := fun i5 i6 i7 i8 i9 => by
    unfold f_L_requests_235 f_L_requests_240
    rw [xl_n, xl_n]
  unfold f_L_requests_105
  simp only [xl_n, xb_n, l_req_7 hv ha, l_req_7 hv hb, l_req_5 hv ha, l_req_5 hv hb, l_req_6 hv ha, l_req_6 hv hb, l_req_0 hv ha, t_0 hv, oa, if_true]
  rw [if_neg (Int32.not_lt.mpr hd), if_neg (Int32.not_lt.mpr (by rw [d3]; exact le _ _ (by omega)))]
  unfold f_L_requests_198
  rw [xl_n, if_neg one]
  by_cases p1 : 0 < V (756 + 10 * a + 7) - V (756 + 10 * b + 7)
  · rw [if_pos p1, r5]
  rw [if_neg p1]
  have p1' := el _ _ (by rw [← d2]; exact Int32.not_lt.mp p1)
  by_cases p2 : 0 < V (756 + 10 * b + 5) - V (756 + 10 * a + 5)
  · rw [if_pos p2, r5]
  rw [if_neg p2]
  have p2' := el _ _ (by rw [← u2]; exact Int32.not_lt.mp p2)
  rw [if_pos (by rw [u1]; exact en _ _ (by omega))]
  by_cases p3 : 0 < V (756 + 10 * b + 6) - V (756 + 10 * a + 6)
  · rw [if_pos p3, r5]
  rw [if_neg p3]
  have p3' := el _ _ (by rw [← w2]; exact Int32.not_lt.mp p3)
  rw [if_pos (by rw [w1]; exact en _ _ (by omega)), if_neg (by rw [lt_n (by omega) (by omega)]; omega), r5]
theorem opN (V : Rw) : cN (fun r => decide (V (756 + 10 * r) = 0)) (nN V 6) = cN (opB V) (nN V 6) := rfl
/-- the request at a place -/
theorem nx_at {V : Rw} {M : xM} (hv : Vw V M) {p : Nat} (hp : p < cN (opB V) (nN V 6)) : ∃ a, a < nN V 6 ∧ V (756 + 10 * a) = 0 ∧ rkV V a = p ∧ f_X8_next M (nI p) = some (nI a) := by
  have c6 := ok_c6 (v_ok hv)
  have hN := cN_le (opB V) (nN V 6)
  obtain ⟨v, h1, h2⟩ := l_next hv (a := nI p) (nI_pos' (by omega))
  obtain ⟨j, j1, j2, j3⟩ := rk_ex (v_ok hv) hp
  rcases h2 with ⟨-, h2⟩ | ⟨a, a1, a2, a3, a4⟩
  · exact absurd (congrArg nI j3) (h2 j j1 (of_decide_eq_true j2))
  · refine ⟨a, a1, a2, ?_, by rw [h1, a4]⟩
    have : rkV V a ≤ nN V 6 := cN_le _ _
    exact (eq_n (by omega) (by omega)).mp a3
theorem nx_end {V : Rw} {M : xM} (hv : Vw V M) : f_X8_next M (nI (cN (opB V) (nN V 6))) = some (-6) := by
  have c6 := ok_c6 (v_ok hv)
  have hN := cN_le (opB V) (nN V 6)
  obtain ⟨v, h1, h2⟩ := l_next hv (a := nI (cN (opB V) (nN V 6))) (nI_pos' (by omega))
  rcases h2 with ⟨h2, -⟩ | ⟨a, a1, a2, a3, a4⟩
  · rw [h1, h2]
  · have k := rk_N a1 (decide_eq_true a2 : opB V a = true)
    have k2 : rkV V a = cN (opB V) (nN V 6) := (eq_n (by omega) (by omega)).mp a3
    omega
theorem q69 {V : Rw} {M : xM} (hv : Vw V M) (h : I42 V) (i1 : Int32) : ∀ (d p fu : Nat), p + d = cN (opB V) (nN V 6) → d < fu → f_L_requests_69 M fu i1 (nI (cN (opB V) (nN V 6))) 1 (nI p) = f_L_requests_247 M i1 (nI (cN (opB V) (nN V 6))) 1 (nI (cN (opB V) (nN V 6))) := by
  have c6 := ok_c6 (v_ok hv)
  have hN := cN_le (opB V) (nN V 6)
  intro d
  induction d with
  | zero =>
    intro p fu e1 e2
    obtain ⟨g, rfl⟩ : ∃ g, fu = g + 1 := ⟨fu - 1, by omega⟩
    have : p = cN (opB V) (nN V 6) := by omega
    rw [f_L_requests_69, this, if_pos (by rw [le_n (by omega) (by omega)]; exact Nat.le_refl _)]
  | succ d ih =>
    intro p fu e1 e2
    obtain ⟨g, rfl⟩ : ∃ g, fu = g + 1 := ⟨fu - 1, by omega⟩
    obtain ⟨a, a1, a2, a3, a4⟩ := nx_at hv (show p < cN (opB V) (nN V 6) by omega)
    have du : V 0 ≤ V (756 + 10 * a + 7) := by
      rcases (h.1 a a1).2 with ⟨-, z, -⟩ | ⟨z, -⟩ | ⟨z, -⟩
      · exact z
      · exact absurd (z.symm.trans a2) (by decide)
      · rcases z with z | z <;> exact absurd (z.symm.trans a2) (by decide)
    rw [f_L_requests_69, if_neg (by rw [le_n (by omega) (by omega)]; omega), if_neg (by decide), a4, xb_n, xl_n]
    by_cases p0 : p = 0
    · rw [if_pos (by rw [p0]; decide), q105 hv a1 a1 a2 du (Or.inl rfl), nI_1]
      exact ih (p + 1) g (by omega) (by omega)
    · obtain ⟨q, rfl⟩ : ∃ q, p = q + 1 := ⟨p - 1, by omega⟩
      obtain ⟨b, b1, b2, b3, b4⟩ := nx_at hv (show q < cN (opB V) (nN V 6) by omega)
      have cb : cbB V b a = true := by
        rcases cb_to (v_ok hv) b1 a1 (fun z => by rw [z] at b3; omega) with z | z
        · exact z
        · have := rk_lt (v_ok hv) a1 b1 (decide_eq_true a2 : opB V a = true) z
          omega
      rw [if_neg (by show ¬ nI (q + 1) ≤ nI 0; rw [le_n (by omega) (by omega)]; omega), nI_pred, b4, xb_n, q105 hv a1 b1 a2 du (Or.inr cb), nI_1]
      exact ih (q + 2) g (by omega) (by omega)
theorem q297 {V : Rw} {M : xM} (hv : Vw V M) (h : I42 V) (i2 s : Int32) (hs : s = sm (fun r => V (756 + 10 * r + 9)) (nN V 6)) : ∀ (d k fu : Nat), k + d = nN V 6 → d < fu → f_L_requests_297 M fu (nI (nN V 6)) i2 1 s s (sm (fun r => V (756 + 10 * r + 9)) k) (nI k) = some 1 := by
  have ho := v_ok hv
  have c6 := ok_c6 ho
  intro d
  induction d with
  | zero =>
    intro k fu e1 e2
    obtain ⟨g, rfl⟩ : ∃ g, fu = g + 1 := ⟨fu - 1, by omega⟩
    have : k = nN V 6 := by omega
    rw [f_L_requests_297, this, if_pos (by rw [le_n (by omega) (by omega)]; exact Nat.le_refl _), if_neg (by decide), if_pos rfl, if_pos hs]
  | succ d ih =>
    intro k fu e1 e2
    obtain ⟨g, rfl⟩ : ∃ g, fu = g + 1 := ⟨fu - 1, by omega⟩
    have hk : k < nN V 6 := by omega
    have nx := ih (k + 1) g (by omega) (by omega)
    have r0 : ∀ i8 : Int32, f_L_requests_400 M (f_L_requests_297 M g) (nI (nN V 6)) i2 1 s s (sm (fun r => V (756 + 10 * r + 9)) k + V (756 + 10 * k + 9)) (nI k) i8 = some 1 := fun i8 => by
      unfold f_L_requests_400 f_L_requests_405
      rw [xl_n, xl_n, nI_1]
      exact nx
    have hQ := okQ ho hk
    have one : ¬ (1 : Int32) = 0 := by decide
    rw [f_L_requests_297, if_neg (by rw [le_n (by omega) (by omega)]; omega), l_req_0 hv hk, xb_n]
    rcases (h.1 k hk).2 with ⟨a1, -, a3, a4⟩ | ⟨a1, p, a2, a3, a4⟩ | ⟨a1, a3, a4⟩
    · rw [if_neg (by rw [a1]; decide)]
      unfold f_L_requests_319
      simp only [xl_n, xb_n, l_req_9 hv hk, l_req_8 hv hk, if_neg one, if_true]
      rw [if_pos a3, if_pos a4]
      exact r0 _
    · rw [if_pos a1]
      unfold f_L_requests_319
      simp only [xl_n, xb_n, l_req_9 hv hk, l_req_8 hv hk, l_req_2 hv hk, l_req_6 hv hk, if_neg one]
      rw [a3, hQ.2.2.1, l_qual hv a2 hQ.2.2.2.1, xb_n, if_neg (Int32.not_lt.mpr a4)]
      exact r0 _
    · rw [if_neg (by rcases a1 with z | z <;> (rw [z]; decide))]
      unfold f_L_requests_319
      simp only [xl_n, xb_n, l_req_9 hv hk, l_req_8 hv hk, if_neg one, if_true]
      rw [if_pos a3, if_pos a4]
      exact r0 _
theorem q259 {V : Rw} {M : xM} (hv : Vw V M) (h : I42 V) (i2 : Int32) : ∀ (d k fu : Nat), k + d = 8 → d < fu → f_L_requests_259 M fu (nI (nN V 6)) i2 1 (sm (fun j => V (8 + j)) k) (sm (fun j => V (16 + j)) k) 0 (nI k) = some 1 := by
  intro d
  induction d with
  | zero =>
    intro k fu e1 e2
    obtain ⟨g, rfl⟩ : ∃ g, fu = g + 1 := ⟨fu - 1, by omega⟩
    have : k = 8 := by omega
    rw [f_L_requests_259, this, if_pos (by decide), xl_n, h.2.1.1]
    exact q297 hv h i2 _ h.2.1.2 (nN V 6) 0 xFU (by omega) (by have := ok_c6 (v_ok hv); unfold xFU; omega)
  | succ d ih =>
    intro k fu e1 e2
    obtain ⟨g, rfl⟩ : ∃ g, fu = g + 1 := ⟨fu - 1, by omega⟩
    rw [f_L_requests_259, if_neg (by show ¬ nI 8 ≤ nI k; rw [le_n (by omega) (by omega)]; omega), l_inc hv (by omega), xb_n, xl_n, l_paid hv (by omega), xb_n, xl_n, xl_n, nI_1]
    exact ih (k + 1) g (by omega) (by omega)
theorem ck_requests {V : Rw} {M : xM} (hv : Vw V M) (hz : Z916 V) (h : I42 V) : f_L_requests M = some 1 := by
  have ho := v_ok hv
  have c6 := ok_c6 ho
  have n6 := ok_n6 ho
  have hN := cN_le (opB V) (nN V 6)
  have all : nI (cN (opB V) (nN V 6)) + nI (cN (fun r => decide (V (756 + 10 * r) = 1)) (nN V 6)) + nI (cN (fun r => decide (V (756 + 10 * r) = 2)) (nN V 6)) + nI (cN (fun r => decide (V (756 + 10 * r) = 3)) (nN V 6)) = V 6 := by
    rw [nI_add, nI_add, nI_add, n6]
    congr 1
    exact cN_4 (f := fun r => V (756 + 10 * r)) (fun k hk => by
      rcases (h.1 k hk).2 with ⟨z, -⟩ | ⟨z, -⟩ | ⟨z | z, -⟩
      · exact Or.inl z
      · exact Or.inr (Or.inl z)
      · exact Or.inr (Or.inr (Or.inl z))
      · exact Or.inr (Or.inr (Or.inr z)))
  have nm : f_X8_next M (-1) = some (-2) := by
    unfold f_X8_next
    rw [if_neg (by decide)]
  unfold f_L_requests
  simp only [t_6 hv, t_7 hv hz, t_8 hv hz, t_9 hv hz, t_10 hv hz, xb_n, xl_n, opN]
  rw [if_pos all, nx_end hv, xb_n, if_pos rfl, nm, xb_n, if_pos rfl]
  unfold f_L_requests_65
  rw [xl_n, xl_n]
  have k := q69 hv h (V 6) (cN (opB V) (nN V 6)) 0 xFU (by omega) (by unfold xFU; omega)
  refine k.trans ?_
  unfold f_L_requests_247
  rw [xl_n, xl_n, xl_n, xl_n, n6]
  exact q259 hv h _ 8 0 xFU (by omega) (by unfold xFU; omega)
