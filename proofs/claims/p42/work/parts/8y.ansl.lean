/-! the law's answers and acts -/
theorem thB_s (b : Nat → Bool) (i : Nat) : thB b (i + 1) = if b i = true then thB b i ||| ((1 : Int32) <<< ((nI i : Int32) &&& 31)) else thB b i := rfl
theorem op8_a0 {b : Int32} {F : Option (Int32 × xM)} {V : Rw} {M : xM} {T : List Rw} {S : Option Rw} {P : Int32 → Rw → Prop} (h : Op8 b F V M T S P) (hR : Rk V M T S) (hI : I42 V) (hb : b < 0) (hP : ∀ v V2, P v V2 → I42 V2 ∧ V2 0 = V 0 ∧ V2 1 = V 1 ∧ V2 2 = V 2) {K : Int32 → xM → Option (Int32 × xM)} (hK : ∀ v M1, ¬ v ≤ b → K v M1 = some (1, M1)) : ∃ M1 V2 T2, xb2 F K = some (1, M1) ∧ Rk V2 M1 T2 S ∧ I42 V2 ∧ V2 0 = V 0 ∧ V2 1 = V 1 ∧ V2 2 = V 2 := by
  rcases h with ⟨v, e, -, h2⟩ | ⟨v, M1, V2, e, h1, h2, h3⟩
  · rw [e, xb2_n, hK v M h2]
    exact ⟨M, V, T, rfl, hR, hI, rfl, rfl, rfl⟩
  · have nb : ¬ v ≤ b := fun z => h2 (Std.lt_of_le_of_lt z hb)
    rw [e, xb2_n, hK v M1 nb]
    exact ⟨M1, V2, _, rfl, h1, hP v V2 h3⟩
theorem lk_th {V : Rw} {p : Int32} {r : Nat} {a b u : Int32} : ∀ n, lkV V p r a b u n = thB (fun i => decide (¬ shS V (4 * r + i) p a b ≤ 0 ∧ ¬ aN (pmP V (V (164 + 4 * (4 * r + i) + 2)) p u) (nN V 5) = true)) n
  | 0 => rfl
  | i + 1 => by
    have sl : lkV V p r a b u (i + 1) = if ¬ shS V (4 * r + i) p a b ≤ 0 ∧ ¬ aN (pmP V (V (164 + 4 * (4 * r + i) + 2)) p u) (nN V 5) = true then lkV V p r a b u i ||| ((1 : Int32) <<< ((nI i : Int32) &&& 31)) else lkV V p r a b u i := rfl
    rw [sl, lk_th i, thB_s]
    by_cases q : ¬ shS V (4 * r + i) p a b ≤ 0 ∧ ¬ aN (pmP V (V (164 + 4 * (4 * r + i) + 2)) p u) (nN V 5) = true
    · rw [if_pos q, if_pos (decide_eq_true q)]
    · rw [if_neg q, if_neg (fun z => q (of_decide_eq_true z))]
theorem thB_c {f g : Nat → Bool} : ∀ {n : Nat}, (∀ k, k < n → f k = g k) → thB f n = thB g n
  | 0, _ => rfl
  | n + 1, h => by
    unfold thB
    rw [h n (by omega), thB_c (fun k hk => h k (by omega))]
theorem th_ge : ∀ n : Fin 5, ∀ b0 b1 b2 b3 : Bool, 0 ≤ thB (b4 b0 b1 b2 b3) n.val := by decide +kernel
theorem th_nn (f : Nat → Bool) {n : Nat} (hn : n ≤ 4) : 0 ≤ thB f n := by
  have e : thB f n = thB (b4 (f 0) (f 1) (f 2) (f 3)) n := thB_c (fun k hk => by
    rcases (show k = 0 ∨ k = 1 ∨ k = 2 ∨ k = 3 by omega) with rfl | rfl | rfl | rfl <;> rfl)
  rw [e]
  exact th_ge ⟨n, by omega⟩ _ _ _ _
theorem answers_ok {V : Rw} {M : xM} {T : List Rw} {S : Option Rw} {d : Nat} (hR : Rk V M T S) (hI : I42 V) (hd : V 0 = nI d) {q : Nat} (hq : q < nN V 6) : Ac (f_L_answers M (nI q)) V d S := by
  have hv := hR.1
  have ho := v_ok hv
  have c4 := ok_c4 ho
  have c3 := ok_c3 ho
  have c6 := ok_c6 ho
  have hQ := okQ ho hq
  have hr := hQ.2.2.2.1
  have e2 := hQ.2.2.1
  have ex := (hI.1 q hq).1
  have k4 : nN V (84 + 5 * nN V (756 + 10 * q + 2) + 4) ≤ 4 := (ho.2.2.2.1 _ hr).2.2.2.2.2.2
  have one : ¬ (1 : Int32) = 0 := by decide
  -- what the law looks up before
  have A28 : ∀ op : Int32, f_L_answers_28 M (nI q) (V (756 + 10 * q + 1)) (nI (nN V (756 + 10 * q + 2))) op = (if bpI V (nN V (756 + 10 * q + 2)) (-6) (nN V 4) < 0 then f_L_answers_115 M (nI q) (V (756 + 10 * q + 1)) (nI (nN V (756 + 10 * q + 2))) op (bpI V (nN V (756 + 10 * q + 2)) (-6) (nN V 4)) (feV V (V (756 + 10 * q + 1)) (nN V (756 + 10 * q + 2)) (V (756 + 10 * q + 3)) (V (756 + 10 * q + 4)) (V (756 + 10 * q + 5)) (nN V (84 + 5 * nN V (756 + 10 * q + 2) + 4))) (lkV V (V (756 + 10 * q + 1)) (nN V (756 + 10 * q + 2)) (V (756 + 10 * q + 3)) (V (756 + 10 * q + 4)) (V (756 + 10 * q + 5)) (nN V (84 + 5 * nN V (756 + 10 * q + 2) + 4))) else xb (f_X8_quality M (bpI V (nN V (756 + 10 * q + 2)) (-6) (nN V 4)) (nI (nN V (756 + 10 * q + 2)))) fun v31 => if v31 < V (756 + 10 * q + 6) then f_L_answers_115 M (nI q) (V (756 + 10 * q + 1)) (nI (nN V (756 + 10 * q + 2))) op (bpI V (nN V (756 + 10 * q + 2)) (-6) (nN V 4)) (feV V (V (756 + 10 * q + 1)) (nN V (756 + 10 * q + 2)) (V (756 + 10 * q + 3)) (V (756 + 10 * q + 4)) (V (756 + 10 * q + 5)) (nN V (84 + 5 * nN V (756 + 10 * q + 2) + 4))) (lkV V (V (756 + 10 * q + 1)) (nN V (756 + 10 * q + 2)) (V (756 + 10 * q + 3)) (V (756 + 10 * q + 4)) (V (756 + 10 * q + 5)) (nN V (84 + 5 * nN V (756 + 10 * q + 2) + 4))) else f_L_answers_116 M (nI q) (V (756 + 10 * q + 1)) (nI (nN V (756 + 10 * q + 2))) op (bpI V (nN V (756 + 10 * q + 2)) (-6) (nN V 4)) (feV V (V (756 + 10 * q + 1)) (nN V (756 + 10 * q + 2)) (V (756 + 10 * q + 3)) (V (756 + 10 * q + 4)) (V (756 + 10 * q + 5)) (nN V (84 + 5 * nN V (756 + 10 * q + 2) + 4))) (lkV V (V (756 + 10 * q + 1)) (nN V (756 + 10 * q + 2)) (V (756 + 10 * q + 3)) (V (756 + 10 * q + 4)) (V (756 + 10 * q + 5)) (nN V (84 + 5 * nN V (756 + 10 * q + 2) + 4))) 1) := fun op => by
    unfold f_L_answers_28
    simp only [xl_n, xb_n, l_best hv hr, l_req_3 hv hq, l_req_4 hv hq, l_req_5 hv hq, l_req_6 hv hq, l_fee hv hr ex, l_lack hv hr ex]
  have A : f_L_answers M (nI q) = if V (756 + 10 * q) = 0 then f_L_answers_28 M (nI q) (V (756 + 10 * q + 1)) (nI (nN V (756 + 10 * q + 2))) 1 else f_L_answers_28 M (nI q) (V (756 + 10 * q + 1)) (nI (nN V (756 + 10 * q + 2))) 0 := by
    unfold f_L_answers
    simp only [xl_n, xb_n, l_req_1 hv hq, l_req_2 hv hq, l_req_0 hv hq, e2]
  have lk0 := th_nn (fun i => decide (¬ shS V (4 * nN V (756 + 10 * q + 2) + i) (V (756 + 10 * q + 1)) (V (756 + 10 * q + 3)) (V (756 + 10 * q + 4)) ≤ 0 ∧ ¬ aN (pmP V (V (164 + 4 * (4 * nN V (756 + 10 * q + 2) + i) + 2)) (V (756 + 10 * q + 1)) (V (756 + 10 * q + 5))) (nN V 5) = true)) k4
  rw [← lk_th] at lk0
  rw [A]
  simp only [A28]
  rcases cl_answer hR hq with ⟨v, M1, v1, v2, f1, r1⟩ | ⟨m, M1, v1, hm, he, f1, r1⟩
  · have hI2 := I_rsn ho hI v
    have hv2 := r1.1
    have e7 : upd V 7 v 7 = v := upd_eq
    have res : Ac (some (1, M1)) V d S := ⟨M1, upd V 7 v, _, d, rfl, r1, hI2, upd_ne (by decide), upd_ne (by decide), by omega, (upd_ne (by decide)).trans hd⟩
    unfold rsA at v1
    generalize feV V (V (756 + 10 * q + 1)) (nN V (756 + 10 * q + 2)) (V (756 + 10 * q + 3)) (V (756 + 10 * q + 4)) (V (756 + 10 * q + 5)) (nN V (84 + 5 * nN V (756 + 10 * q + 2) + 4)) = fee
    generalize lkV V (V (756 + 10 * q + 1)) (nN V (756 + 10 * q + 2)) (V (756 + 10 * q + 3)) (V (756 + 10 * q + 4)) (V (756 + 10 * q + 5)) (nN V (84 + 5 * nN V (756 + 10 * q + 2) + 4)) = lk at v1 lk0
    -- the end of an answer that is refused
    have E : ∀ op best good : Int32, f_L_answers_116 M (nI q) (V (756 + 10 * q + 1)) (nI (nN V (756 + 10 * q + 2))) op best fee lk good = if op = 0 then f_L_answers_179 M1 (nI q) (V (756 + 10 * q + 1)) (nI (nN V (756 + 10 * q + 2))) op best fee lk good (-5) v v 6 else if 0 ≤ best then (if good = 0 then f_L_answers_179 M1 (nI q) (V (756 + 10 * q + 1)) (nI (nN V (756 + 10 * q + 2))) op best fee lk good (-5) v v 8 else f_L_answers_179 M1 (nI q) (V (756 + 10 * q + 1)) (nI (nN V (756 + 10 * q + 2))) op best fee lk good (-5) v v 9) else f_L_answers_179 M1 (nI q) (V (756 + 10 * q + 1)) (nI (nN V (756 + 10 * q + 2))) op best fee lk good (-5) v v 7 := fun op best good => by
      unfold f_L_answers_116
      rw [xl_n, f1, xb2_n, xl_n, if_neg (by decide), t_11 hv2, xb_n, xl_n, if_pos rfl, e7]
    have E0 : ∀ op best : Int32, f_L_answers_115 M (nI q) (V (756 + 10 * q + 1)) (nI (nN V (756 + 10 * q + 2))) op best fee lk = f_L_answers_116 M (nI q) (V (756 + 10 * q + 1)) (nI (nN V (756 + 10 * q + 2))) op best fee lk 0 := fun _ _ => rfl
    have L : ∀ op best good w : Int32, v = w → w < 9 → f_L_answers_179 M1 (nI q) (V (756 + 10 * q + 1)) (nI (nN V (756 + 10 * q + 2))) op best fee lk good (-5) v v w = some (1, M1) := fun op best good w hw h9 => by
      unfold f_L_answers_179
      rw [if_pos hw, if_pos (by rw [hw]; exact h9)]
      rfl
    rcases v1 with ⟨a1, a2⟩ | ⟨a0, ⟨a1, a2⟩ | ⟨m, m1, m2, ⟨a1, a2⟩ | ⟨a2, ⟨a1, a3⟩ | ⟨a1, -⟩⟩⟩⟩
    · have done : ∀ best good : Int32, f_L_answers_116 M (nI q) (V (756 + 10 * q + 1)) (nI (nN V (756 + 10 * q + 2))) 0 best fee lk good = some (1, M1) := fun best good => by
        rw [E, if_pos rfl, L _ _ _ 6 a1 (by decide)]
      simp only [E0, done]
      rw [if_neg a2]
      rcases bp_cases V (nN V (756 + 10 * q + 2)) (nN V 4) with ⟨m, hm, e⟩ | e
      · rw [e, if_neg (nI_pos (by omega)), l_qual hv hm hr, xb_n]
        simp only [ite_self]
        exact res
      · rw [e, if_pos (by decide)]
        exact res
    · rw [if_pos a0, a2, if_pos (by decide), E0, E, if_neg one, if_neg (by decide), L _ _ _ 7 a1 (by decide)]
      exact res
    · rw [if_pos a0, m2, if_neg (nI_pos (by omega)), l_qual hv m1 hr, xb_n, if_pos (Int32.not_le.mp a2), E0, E, if_neg one, if_pos (nI_pos' (by omega)), if_pos rfl, L _ _ _ 8 a1 (by decide)]
      exact res
    · rw [if_pos a0, m2, if_neg (nI_pos (by omega)), l_qual hv m1 hr, xb_n, if_neg (Int32.not_lt.mpr a2), E, if_neg one, if_pos (nI_pos' (by omega)), if_neg one]
      unfold f_L_answers_179
      have lp : ¬ lk ≤ 0 := fun z => a3 (Int32.le_antisymm z lk0)
      rw [if_pos a1, a1, if_neg (by decide), if_neg lp]
      exact res
    · exact absurd a1 v2
  · obtain ⟨a0, m', m1, m2, a2, a3⟩ : V (756 + 10 * q) = 0 ∧ ∃ m, m < nN V 4 ∧ (∀ d, bpI V (nN V (756 + 10 * q + 2)) d (nN V 4) = nI m) ∧ V (756 + 10 * q + 6) ≤ qlV V m (nN V (756 + 10 * q + 2)) ∧ lkV V (V (756 + 10 * q + 1)) (nN V (756 + 10 * q + 2)) (V (756 + 10 * q + 3)) (V (756 + 10 * q + 4)) (V (756 + 10 * q + 5)) (nN V (84 + 5 * nN V (756 + 10 * q + 2) + 4)) = 0 := by
      rcases v1 with ⟨a, -⟩ | ⟨a0, ⟨a, -⟩ | ⟨m, m1, m2, ⟨a, -⟩ | ⟨a2, ⟨a, -⟩ | ⟨-, a3⟩⟩⟩⟩
      · exact absurd a (by decide)
      · exact absurd a (by decide)
      · exact absurd a (by decide)
      · exact absurd a (by decide)
      · exact ⟨a0, m, m1, m2, a2, a3⟩
    have mm : m' = m := (eq_n (by omega) (by omega)).mp ((m2 0).symm.trans (he 0))
    subst mm
    obtain ⟨hI2, e7, e9, elo⟩ := I_ans ho hI hq m1 a0 a2
    have hv2 := r1.1
    have n6 : nN (ansV V q m') 6 = nN V 6 := nNe (elo 6 (by decide))
    have l9 : f_X8_requested M1 (nI q) 9 = some (ansV V q m' (756 + 10 * q + 9)) := l_req_9 hv2 (by rw [n6]; exact hq)
    rw [e9] at l9
    rw [if_pos a0, m2, if_neg (nI_pos (by omega)), l_qual hv m1 hr, xb_n, if_neg (Int32.not_lt.mpr a2), a3]
    unfold f_L_answers_116
    rw [xl_n, f1, xb2_n, xl_n, if_pos (nI_pos' (by omega)), if_neg one, if_neg one, if_pos rfl, if_pos rfl, l9, xb_n, if_pos rfl, t_11 hv2, xb_n, if_pos e7]
    exact ⟨M1, ansV V q m', _, d, rfl, r1, hI2, elo 1 (by decide), elo 2 (by decide), by omega, (elo 0 (by decide)).trans hd⟩
theorem dv_lo {V : Rw} {a : Int32} : dayV V a 0 = V 0 + a ∧ ∀ j, 0 < j → j < 64 → dayV V a j = V j := by
  unfold dayV
  refine ⟨?_, fun j h1 h2 => ?_⟩
  · rw [reqV_ne (fun q _ => by omega), macV_ne (fun q _ => by omega), upd_eq]
  · rw [reqV_ne (fun q _ => by omega), macV_ne (fun q _ => by omega), upd_ne (by omega)]
theorem days_ok {V : Rw} {M : xM} {T : List Rw} {S : Option Rw} {d : Nat} (hR : Rk V M T S) (hI : I42 V) (hd : V 0 = nI d) {k : Nat} (h1 : 1 ≤ k) (h2 : k ≤ 99) (h3 : d + k ≤ 9999) : ∃ M1 v, f_X8_passDays M (nI k) = some (v, M1) ∧ ¬ v < 0 ∧ Rk (dayV V (nI k)) M1 (psh V T) S ∧ I42 (dayV V (nI k)) ∧ dayV V (nI k) 0 = nI (d + k) := by
  have ho := v_ok hR.1
  have c6 := ok_c6 ho
  have p1 : (1 : Int32) ≤ nI k ∧ nI k ≤ 99 := ⟨by show nI 1 ≤ nI k; rw [le_n (by omega) (by omega)]; exact h1, by show nI k ≤ nI 99; rw [le_n (by omega) (by omega)]; exact h2⟩
  have p2 : V 0 + nI k ≤ 9999 := by rw [hd, nI_add]; show nI (d + k) ≤ nI 9999; rw [le_n (by omega) (by omega)]; exact h3
  obtain ⟨M1, e, r⟩ := cl_passDays hR p1 p2
  refine ⟨M1, _, e, ?_, r, I_day ho hI p1, by rw [dv_lo.1, hd, nI_add]⟩
  unfold dayN
  have := cN_le (exq (macV (upd V 0 (V 0 + nI k)) (nN V 2))) (nN V 6)
  exact nI_pos (by omega)
theorem acts_ok {V : Rw} {M : xM} {T : List Rw} {S : Option Rw} {d : Nat} (hR : Rk V M T S) (hI : I42 V) (hd : V 0 = nI d) (h1 : 0 < nN V 1) (h2 : 0 < nN V 2) (h9 : d + 12 ≤ 9999) {x : Nat} (hx : x < 2147483648) : Ac (f_L_acts M (nI x)) V d S := by
  have hv := hR.1
  have ho := v_ok hv
  have c1 := ok_c1 ho
  have c3 := ok_c3 ho
  have c6 := ok_c6 ho
  have s3 : (nI x : Int32) >>> ((3 : Int32) &&& 31) = nI (x / 8) := pk_shrN hx _ 3 (by decide)
  unfold f_L_acts
  rw [xl_n, s3, t_3 hv, xb_n, xl_n, t_6 hv, xb_n, xl_n]
  by_cases q0 : (nI x &&& 7) = 0
  · rw [if_pos q0, t_1 hv, xb_n, if_neg (by rw [ok_n1 ho]; exact nI_ne0 h1 (by omega))]
    refine op8_ac (cl_addRecording hR _ _ _ _) hR hI hd (by decide) (fun v V2 h => ?_) (fun v M1 h => if_neg h)
    obtain ⟨g1, g2, g3⟩ := h
    exact ⟨I42_fr ho hI (fun j hj => g3 j (by omega) (by omega)) (fun r c hr hc => g3 _ (by omega) (by omega)), g3 0 (by omega) (by omega), g3 1 (by omega) (by omega), g3 2 (by omega) (by omega)⟩
  rw [if_neg q0]
  by_cases q1 : (nI x &&& 7) = 1
  · rw [if_pos q1]
    by_cases z : V 3 = 0
    · rw [if_pos z]
      exact Ac_id hR hI hd
    · rw [if_neg z, if_neg z]
      refine op8_ac (cl_addPart hR _ _ _ _ _) hR hI hd (by decide) (fun v V2 h => ?_) (fun v M1 h => if_neg h)
      exact ⟨I42_fr ho hI (fun j hj => h j (by omega)) (fun r c hr hc => h _ (Or.inr (Or.inr ⟨r, c, by omega, hc, rfl⟩))), h 0 (by omega), h 1 (by omega), h 2 (by omega)⟩
  rw [if_neg q1]
  have pl : Ac (xb2 (f_L_plays M (nI (x / 8))) fun v14 M15 => xgd (xz v14) (some (v14, M15))) V d S := by
    obtain ⟨M1, V2, T2, d2, e, g⟩ := plays_ok hR hI hd h1 h2 (show x / 8 < 2147483648 by omega)
    rw [e, xb2_n, show xz 1 = true from rfl, xgd_n]
    exact ⟨M1, V2, T2, d2, rfl, g⟩
  by_cases q2 : (nI x &&& 7) = 2
  · rw [if_pos q2]; exact pl
  rw [if_neg q2]
  by_cases q3 : (nI x &&& 7) = 3
  · rw [if_pos q3]; exact pl
  rw [if_neg q3]
  by_cases q4 : (nI x &&& 7) = 4
  · rw [if_pos q4]
    refine op8_ac (cl_permit hR _ _ _ _) hR hI hd (by decide) (fun v V2 h => ?_) (fun v M1 h => if_neg h)
    exact ⟨I42_fr ho hI (fun j hj => h j (by omega) (by omega)) (fun r c hr hc => h _ (by omega) (by omega)), h 0 (by omega) (by omega), h 1 (by omega) (by omega), h 2 (by omega) (by omega)⟩
  rw [if_neg q4]
  by_cases q5 : (nI x &&& 7) = 5
  · rw [if_pos q5]
    by_cases z : V 3 = 0
    · rw [if_pos z]
      exact Ac_id hR hI hd
    · rw [if_neg z, if_neg z]
      refine op8_ac (cl_request hR _ _ _ _ _ _) hR hI hd (by decide) (fun v V2 h => ?_) (fun v M1 h => if_neg h)
      obtain ⟨r, hr, g1, g2, -, g4, g5, w0, w1, w2, w3, w4, w5, w7, w8⟩ := h
      exact ⟨I_req ho hI hr g1 g2 g4 g5 w0 w1 w2 w3 w4 w5 w7 w8, g5 0 (by omega) (by omega), g5 1 (by omega) (by omega), g5 2 (by omega) (by omega)⟩
  rw [if_neg q5]
  by_cases q6 : (nI x &&& 7) = 6
  · rw [if_pos q6]
    by_cases z : V 6 = 0
    · rw [if_pos z]
      exact Ac_id hR hI hd
    · have p6 : 0 < nN V 6 := by
        rcases Nat.eq_zero_or_pos (nN V 6) with w | w
        · exact absurd (by rw [ok_n6 ho, w]; rfl) z
        · exact w
      rw [if_neg z, if_neg z, ok_n6 ho, pk_rem (by omega) p6 (by omega)]
      obtain ⟨M1, V2, T2, d2, e, g⟩ := answers_ok hR hI hd (Nat.mod_lt (x / 8) p6)
      rw [e, xb2_n, if_neg (by decide)]
      exact ⟨M1, V2, T2, d2, rfl, g⟩
  rw [if_neg q6]
  have ek : (1 : Int32) + (nI (x / 8) - nI (x / 8) / 12 * 12) = nI (1 + x / 8 % 12) := by
    show nI 1 + (nI (x / 8) - nI (x / 8) / nI 12 * nI 12) = _
    rw [pk_rem (by omega) (by decide) (by decide), nI_add]
  have km : x / 8 % 12 < 12 := Nat.mod_lt _ (by decide)
  obtain ⟨M1, v, e, nv, r, hI2, d2⟩ := days_ok hR hI hd (k := 1 + x / 8 % 12) (by omega) (by omega) (by omega)
  have lo := (dv_lo (V := V) (a := nI (1 + x / 8 % 12))).2
  have res : Ac (some (1, M1)) V d S := ⟨M1, _, _, d + (1 + x / 8 % 12), rfl, r, hI2, lo 1 (by decide) (by decide), lo 2 (by decide) (by decide), by omega, d2⟩
  rw [ek, e, xb2_n, if_neg nv]
  by_cases z : V 6 = 0
  · rw [if_pos z]; exact res
  rw [if_neg z]
  split
  · exact res
  · have w := op8_a0 (K := fun v26 M27 => if v26 ≤ (-4) then some (0, M27) else f_L_acts_350 M27 (nI x) (nI (x / 8)) (V 3) (V 6)) (cl_withdraw r ((nI (x / 8) >>> ((7 : Int32) &&& 31)) - (nI (x / 8) >>> ((7 : Int32) &&& 31)) / V 6 * V 6)) r hI2 (by decide) (fun v V2 h => by
      obtain ⟨rr, g1, g2, rfl⟩ := h
      exact ⟨I_wd (v_ok r.1) hI2 g1 g2, upd_ne (by omega), upd_ne (by omega), upd_ne (by omega)⟩) (fun v M1 h => if_neg h)
    obtain ⟨M2, V2, T2, e1, g1, g2, g3, g4, g5⟩ := w
    exact ⟨M2, V2, T2, d + (1 + x / 8 % 12), e1, g1, g2, g4.trans (lo 1 (by decide) (by decide)), g5.trans (lo 2 (by decide) (by decide)), by omega, g3.trans d2⟩
