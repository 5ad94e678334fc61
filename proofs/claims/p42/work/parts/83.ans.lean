def acV (V : Nat → Int32) (p : Int32) (r : Nat) (a b u : Int32) : Nat → Nat → Int32
  | 0 => V
  | i + 1 => upd (acV V p r a b u i) (8 + nN V (164 + 4 * (4 * r + i) + 2)) (acV V p r a b u i (8 + nN V (164 + 4 * (4 * r + i) + 2)) + shS V (4 * r + i) p a b * prI u)
theorem acV_ne {V : Nat → Int32} {p : Int32} {r : Nat} {a b u : Int32} {j : Nat} : ∀ {i : Nat}, (∀ k, k < i → nN V (164 + 4 * (4 * r + k) + 2) < 8) → (j < 8 ∨ 16 ≤ j) → acV V p r a b u i j = V j
  | 0, _, _ => rfl
  | i + 1, h, hj => by
    have := h i (by omega)
    unfold acV
    rw [upd_ne (by omega), acV_ne (fun k hk => h k (by omega)) hj]
theorem Ok_prs {V V2 : Nat → Int32} (h : Ok V) (e : ∀ j, (j < 8 ∨ 24 ≤ j) → V2 j = V j) : Ok V2 := by
  have n5 : nN V2 5 = nN V 5 := by unfold nN; rw [e 5 (by omega)]
  have n6 : nN V2 6 = nN V 6 := by unfold nN; rw [e 6 (by omega)]
  have c5 := ok_c5 h
  have c6 := ok_c6 h
  refine Ok_hi h (fun j _ _ _ _ g => e j g) (by rw [n5, e 5 (by omega)]; exact ok_n5 h) (by omega) (by rw [n6, e 6 (by omega)]; exact ok_n6 h) (by omega) (fun q g => by rw [e _ (by omega)]; exact h.2.2.2.2.2.2.2.1 q (by omega)) (fun q g1 g2 => by rw [e _ (by omega)]; exact h.2.2.2.2.2.2.2.2.1 q (by omega) g2) (fun q g => OkQ_c (h.2.2.2.2.2.2.2.2.2.1 q (by omega)) (by unfold nN; rw [e 3 (by omega)]; exact Nat.le_refl _) (fun c _ => e _ (by omega))) (fun q g1 g2 => by rw [e _ (by omega)]; exact h.2.2.2.2.2.2.2.2.2.2 q (by omega) g2)
theorem shS_c {V V2 : Nat → Int32} {j : Nat} (e : ∀ j, (j < 8 ∨ 24 ≤ j) → V2 j = V j) (p a b : Int32) : shS V2 j p a b = shS V j p a b := by
  unfold shS
  rw [e _ (by omega), e _ (by omega), e _ (by omega), e _ (by omega), e _ (by omega)]
theorem St_prs {V V2 : Nat → Int32} {M Mk : xM} (h : St V2 M Mk) (hk : Vw V Mk) (e : ∀ j, (j < 8 ∨ 24 ≤ j) → V2 j = V j) : Vw V2 M := (St_end h (St_der h hk (e _ (by omega)) (e _ (by omega)) (fun j _ _ => e j (by omega)) (fun r _ => ⟨e _ (by omega), e _ (by omega)⟩) (fun r _ => e _ (by omega))) (Ok_prs (v_ok hk) e)).1
theorem sx_prs0 {V : Nat → Int32} {M Mk : xM} (h : St V M Mk) {s : Nat} (hs : s < 8) (v : Int32) : ∃ M1, f_X6_add 16 17 16 M (nI s) 0 v = some M1 ∧ St (upd V (8 + s) (V (8 + s) + v)) M1 Mk := by
  refine ⟨_, s_addk_prs h (c := 0) 0 v hs rfl (by decide), ?_⟩
  rw [h.1.2.2.2.2.2.2.2.2.2.1 s hs]
  exact w_prs0 h hs _
theorem sx_prs1 {V : Nat → Int32} {M Mk : xM} (h : St V M Mk) {s : Nat} (hs : s < 8) (v : Int32) : ∃ M1, f_X6_add 16 17 16 M (nI s) 1 v = some M1 ∧ St (upd V (16 + s) (V (16 + s) + v)) M1 Mk := by
  refine ⟨_, s_addk_prs h (c := 1) 1 v hs rfl (by decide), ?_⟩
  rw [h.1.2.2.2.2.2.2.2.2.2.2.1 s hs]
  exact w_prs1 h hs _
theorem upd_ow {A : Nat → Int32} {a b c : Nat} {X Y Z X2 Y2 : Int32} : upd (upd (upd (upd (upd A a X) b Y) c Z) a X2) b Y2 = upd (upd (upd A c Z) a X2) b Y2 := by
  funext j
  unfold upd
  by_cases h1 : j = b
  · simp [h1]
  · by_cases h2 : j = a
    · simp [h1, h2]
    · by_cases h3 : j = c
      · simp [h1, h2, h3]
      · simp [h1, h2, h3]
def ansV (V : Nat → Int32) (q m : Nat) : Nat → Int32 :=
  let p := V (756 + 10 * q + 1); let r := nN V (756 + 10 * q + 2); let a := V (756 + 10 * q + 3); let b := V (756 + 10 * q + 4); let u := V (756 + 10 * q + 5)
  let n := nN V (84 + 5 * r + 4)
  upd (upd (upd (upd (upd (acV V p r a b u n) (16 + nN V (756 + 10 * q + 1)) (V (16 + nN V (756 + 10 * q + 1)) + feV V p r a b u n)) (756 + 10 * q + 0) 1) (756 + 10 * q + 8) (nI m)) (756 + 10 * q + 9) (feV V p r a b u n)) 7 0
theorem core_ans {V : Nat → Int32} (ho : Ok V) (hz : Z916 V) {q m : Nat} (hq : q < nN V 6) (hm : m < nN V 4) (ho0 : V (756 + 10 * q) = 0) (he : ∀ d, bpI V (nN V (756 + 10 * q + 2)) d (nN V 4) = nI m) (f w : Int32) : Core (fun _ => True) V (ansV V q m) (nI m) (fun M => f_X8_giveAnswer M (nI q)) (fun M => f_X9_answers_73 M (nI q) f (nI (756 + 10 * q)) (nI (nN V (756 + 10 * q + 2))) (nI m) w) := by
  have c1 := ok_c1 ho
  have c3 := ok_c3 ho
  have c4 := ok_c4 ho
  have c6 := ok_c6 ho
  have hQ := ho.2.2.2.2.2.2.2.2.2.1 q hq
  have e1 := hQ.1
  have k1 := hQ.2.1
  have e2 := hQ.2.2.1
  have k2 := hQ.2.2.2.1
  have g3 := hQ.2.2.2.2.1
  have g4 := hQ.2.2.2.2.2.1
  have g5 := hQ.2.2.2.2.2.2.1
  have fee0 := hQ.2.2.2.2.2.2.2.2.2 ho0
  unfold ansV
  simp only []
  generalize hp : V (756 + 10 * q + 1) = p at *
  generalize hr : nN V (756 + 10 * q + 2) = r at *
  generalize ha : V (756 + 10 * q + 3) = a at *
  generalize hb : V (756 + 10 * q + 4) = b at *
  generalize hu : V (756 + 10 * q + 5) = u at *
  generalize hs : nN V (756 + 10 * q + 1) = s at *
  subst e1
  have hR := (ho.2.2.2.1 r k2).2.2.2.2.2
  generalize hn : nN V (84 + 5 * r + 4) = n at *
  have hT : ∀ k, k < n → OkT V (4 * r + k) := fun k hk => ho.2.2.2.2.2.1 r k k2 (by omega)
  have h8 : ∀ k, k < n → nN V (164 + 4 * (4 * r + k) + 2) < 8 := fun k hk => (hT k hk).2.2.2
  have ace : ∀ i, i ≤ n → ∀ j, (j < 8 ∨ 16 ≤ j) → acV V (nI s) r a b u i j = V j := fun i hi j hj => acV_ne (fun k hk => h8 k (by omega)) hj
  have k8 : ∀ (Mk : xM), Vw V Mk → ∀ (d i fu : Nat) (M : xM), i + d = n → d < fu → St (acV V (nI s) r a b u i) M Mk → ∃ M1, f_X8_giveAnswer_81 fu M (nI q) (nI s) (nI r) a b u (nI m) (feV V (nI s) r a b u i) (nI i) = f_X8_giveAnswer_81 (fu - d) M1 (nI q) (nI s) (nI r) a b u (nI m) (feV V (nI s) r a b u n) (nI n) ∧ St (acV V (nI s) r a b u n) M1 Mk := by
    intro Mk hk d
    induction d with
    | zero =>
      intro i fu M d1 d2 h
      have : i = n := by omega
      subst this
      exact ⟨M, rfl, h⟩
    | succ d ih =>
      intro i fu M d1 d2 h
      obtain ⟨g, rfl⟩ : ∃ g, fu = g + 1 := ⟨fu - 1, by omega⟩
      have ee : ∀ j, (j < 8 ∨ 24 ≤ j) → acV V (nI s) r a b u i j = V j := fun j hj => ace i (by omega) j (by omega)
      have hv := St_prs h hk ee
      have x3 : r < nN (acV V (nI s) r a b u i) 3 := by unfold nN; rw [ee 3 (by omega)]; exact k2
      have t := hT i (by omega)
      obtain ⟨M1, r1, r2⟩ := sx_prs0 h (h8 i (by omega)) (shS V (4 * r + i) (nI s) a b * prI u)
      obtain ⟨M2, s1, s2⟩ := ih (i + 1) g M1 (by omega) (by omega) r2
      refine ⟨M2, ?_, s2⟩
      rw [f_X8_giveAnswer_81, g_rec_5 hv x3, xb_n, ee _ (by omega), hR.1, if_neg (by rw [le_n (by omega) (by omega)]; omega), row_e, xb_n, xl_n, fp8 hv (by omega) (nI s) a b g5, xb_n, xl_n, shS_c ee, g_prt_2 hv (by omega), xb_n, ee _ (by omega), t.2.2.1, r1, xb_n, xl_n, xl_n, ir_1]
      rw [show g + 1 - (d + 1) = g - d by omega]
      exact s1
  have o1 : ∀ V2 : Nat → Int32, (∀ j, j ≠ 7 → (j < 8 ∨ 24 ≤ j) → j ≠ 756 + 10 * q → j ≠ 756 + 10 * q + 8 → j ≠ 756 + 10 * q + 9 → V2 j = V j) → V2 (756 + 10 * q) = 1 → Ok V2 := by
    intro V2 ev e01
    refine Ok_rq ho (fun j j1 j2 j3 => ev j j1 j2 (by omega) (by omega) (by omega)) hq ?_
    have old := ho.2.2.2.2.2.2.2.2.2.1 q hq
    have x1 : nN V2 (756 + 10 * q + 1) = nN V (756 + 10 * q + 1) := by unfold nN; rw [ev _ (by omega) (by omega) (by omega) (by omega) (by omega)]
    have x2 : nN V2 (756 + 10 * q + 2) = nN V (756 + 10 * q + 2) := by unfold nN; rw [ev _ (by omega) (by omega) (by omega) (by omega) (by omega)]
    have x3 : nN V2 3 = nN V 3 := by unfold nN; rw [ev _ (by omega) (by omega) (by omega) (by omega) (by omega)]
    unfold OkQ at *
    rw [x1, x2, x3, e01, ev (756 + 10 * q + 1) (by omega) (by omega) (by omega) (by omega) (by omega), ev (756 + 10 * q + 2) (by omega) (by omega) (by omega) (by omega) (by omega), ev (756 + 10 * q + 3) (by omega) (by omega) (by omega) (by omega) (by omega), ev (756 + 10 * q + 4) (by omega) (by omega) (by omega) (by omega) (by omega), ev (756 + 10 * q + 5) (by omega) (by omega) (by omega) (by omega) (by omega), ev (756 + 10 * q + 6) (by omega) (by omega) (by omega) (by omega) (by omega), ev (756 + 10 * q + 7) (by omega) (by omega) (by omega) (by omega) (by omega)]
    exact ⟨old.1, old.2.1, old.2.2.1, old.2.2.2.1, old.2.2.2.2.1, old.2.2.2.2.2.1, old.2.2.2.2.2.2.1, old.2.2.2.2.2.2.2.1, old.2.2.2.2.2.2.2.2.1, fun z => absurd z (by decide)⟩
  generalize hV2 : upd (upd (upd (upd (upd (acV V (nI s) r a b u n) (16 + s) (V (16 + s) + feV V (nI s) r a b u n)) (756 + 10 * q + 0) 1) (756 + 10 * q + 8) (nI m)) (756 + 10 * q + 9) (feV V (nI s) r a b u n)) 7 0 = V2
  have ev : ∀ j, j ≠ 7 → (j < 8 ∨ 24 ≤ j) → j ≠ 756 + 10 * q → j ≠ 756 + 10 * q + 8 → j ≠ 756 + 10 * q + 9 → V2 j = V j := fun j b1 b2 b3 b4 b5 => by
    rw [← hV2]
    simp (disch := omega) only [upd_ne]
    exact ace n (Nat.le_refl _) j (by omega)
  have ev0 : V2 (756 + 10 * q) = 1 := by
    rw [← hV2, show 756 + 10 * q = 756 + 10 * q + 0 from rfl]
    simp (disch := omega) only [upd_ne, upd_eq]
  have o2 := o1 V2 ev ev0
  refine ⟨fun M hM => ?_, fun M hM _ => ?_, fun j hj => ?_⟩
  · obtain ⟨M1, r1, r2⟩ := k8 M hM n 0 xFU M (by omega) (by unfold xFU; omega) (St_0 hM hz)
    have ee : ∀ j, (j < 8 ∨ 24 ≤ j) → acV V (nI s) r a b u n j = V j := fun j hj => ace n (Nat.le_refl _) j (by omega)
    have hv := St_prs r2 hM ee
    have x3 : r < nN (acV V (nI s) r a b u n) 3 := by unfold nN; rw [ee 3 (by omega)]; exact k2
    have x6 : acV V (nI s) r a b u n 6 = nI (nN V 6) := (ee 6 (by omega)).trans (ok_n6 ho)
    obtain ⟨M2, a1, a2⟩ := sx_prs1 r2 k1 (feV V (nI s) r a b u n)
    rw [ace n (Nat.le_refl _) _ (by omega)] at a2
    obtain ⟨M3, b1, b2, b3⟩ := sx_req a2 ((upd_ne (by omega)).trans x6) c6 (r := q) (c := 0) 0 1 hq rfl (by decide)
    obtain ⟨M4, d1, d2, d3⟩ := sx_req b2 b3 c6 (r := q) (c := 8) 8 (nI m) hq rfl (by decide)
    obtain ⟨M5, f1, f2, f3⟩ := sx_req d2 d3 c6 (r := q) (c := 9) 9 (feV V (nI s) r a b u n) hq rfl (by decide)
    have w1 := w_rsn f2 0
    rw [hV2] at w1
    obtain ⟨r3, r4⟩ := St_end w1 (St_der w1 hM (ev 3 (by omega) (by omega) (by omega) (by omega) (by omega)) (ev 4 (by omega) (by omega) (by omega) (by omega) (by omega)) (fun j _ _ => ev j (by omega) (by omega) (by omega) (by omega) (by omega)) (fun r _ => ⟨ev _ (by omega) (by omega) (by omega) (by omega) (by omega), ev _ (by omega) (by omega) (by omega) (by omega) (by omega)⟩) (fun r _ => ev _ (by omega) (by omega) (by omega) (by omega) (by omega))) o2
    refine ⟨_, ?_, r3, r4⟩
    show f_X8_giveAnswer M (nI q) = _
    unfold f_X8_giveAnswer
    rw [g_req_1 hM hq, xb_n, xl_n, g_req_2 hM hq, xb_n, xl_n, g_req_3 hM hq, xb_n, xl_n, g_req_4 hM hq, xb_n, xl_n, g_req_5 hM hq, xb_n, xl_n, e2, b8 hM k2, xb_n, xl_n, xl_n, xl_n, he, hp, ha, hb, hu]
    refine r1.trans ?_
    obtain ⟨g, hg⟩ : ∃ g, xFU - n = g + 1 := ⟨xFU - n - 1, by unfold xFU; omega⟩
    rw [hg, f_X8_giveAnswer_81, g_rec_5 hv x3, xb_n, ee _ (by omega), hR.1, if_pos (by rw [le_n (by omega) (by omega)]; exact Nat.le_refl _), a1, xb_n, b1, xb_n, d1, xb_n, f1, xb_n, xl_n]
  · refine ⟨M, ?_, fun _ _ => rfl⟩
    show f_X9_answers_73 (wV M V) (nI q) f (nI (756 + 10 * q)) (nI r) (nI m) w = _
    have k9 : ∀ (d i fu : Nat), i + d = n → d < fu → f_X9_answers_76 fu (wV M (upd (upd (acV V (nI s) r a b u i) (16 + s) (V (16 + s) + feV V (nI s) r a b u i)) (756 + 10 * q + 9) (feV V (nI s) r a b u i))) (nI q) f (nI (756 + 10 * q)) (nI r) (nI m) w (nI i) = some (nI m, wV M V2) := by
      intro d
      induction d with
      | zero =>
        intro i fu d1 d2
        obtain ⟨g, rfl⟩ : ∃ g, fu = g + 1 := ⟨fu - 1, by omega⟩
        have : i = n := by omega
        subst this
        have y : upd (upd (acV V (nI s) r a b u i) (16 + s) (V (16 + s) + feV V (nI s) r a b u i)) (756 + 10 * q + 9) (feV V (nI s) r a b u i) (84 + 5 * r + 4) = nI i := by
          simp (disch := omega) only [upd_ne]
          rw [ace i (Nat.le_refl _) _ (by omega)]; exact hR.1
        rw [f_X9_answers_76]
        simp (disch := omega) only [ite_true, IM, IA, IR, IC, IN, nI_add, pk_mul, xin_n, cl_n, xgd_n, ↓xl_n, xb_n, xb2_n, xw_wV, wV_150]
        rw [y, if_pos (by rw [le_n (by omega) (by omega)]; exact Nat.le_refl _), ← hV2]
        simp (disch := omega) only [upd_out (756 + 10 * q + 9), Nat.add_zero]
      | succ d ih =>
        intro i fu d1 d2
        obtain ⟨g, rfl⟩ : ∃ g, fu = g + 1 := ⟨fu - 1, by omega⟩
        have p1 := ih (i + 1) g (by omega) (by omega)
        have t := hT i (by omega)
        have ti := h8 i (by omega)
        generalize hU : upd (upd (acV V (nI s) r a b u i) (16 + s) (V (16 + s) + feV V (nI s) r a b u i)) (756 + 10 * q + 9) (feV V (nI s) r a b u i) = U
        have eU : ∀ j, (j < 8 ∨ 24 ≤ j) → j ≠ 756 + 10 * q + 9 → U j = V j := fun j j1 j2 => by
          rw [← hU]; simp (disch := omega) only [upd_ne]; exact ace i (by omega) j (by omega)
        have y : U (84 + 5 * r + 4) = nI n := (eU _ (by omega) (by omega)).trans hR.1
        have y1 : U (756 + 10 * q + 1) = nI s := (eU _ (by omega) (by omega)).trans (hp)
        have y3 : U (756 + 10 * q + 3) = a := (eU _ (by omega) (by omega)).trans ha
        have y4 : U (756 + 10 * q + 4) = b := (eU _ (by omega) (by omega)).trans hb
        have y5 : U (756 + 10 * q + 5) = u := (eU _ (by omega) (by omega)).trans hu
        have e : 164 + 16 * r + 4 * i = 164 + 4 * (4 * r + i) := by omega
        have yt : U (164 + 4 * (4 * r + i) + 2) = nI (nN V (164 + 4 * (4 * r + i) + 2)) := (eU _ (by omega) (by omega)).trans t.2.2.1
        have tU : OkT U (4 * r + i) := OkT_c t (fun c hc => eU _ (by omega) (by omega))
        have sh : f_X9_shared (wV M U) (nI r) (nI i) a b (nI s) = some (shS V (4 * r + i) (nI s) a b) := by
          rw [bs9 wV_150 (by omega) (by omega) tU g3 g4]
          unfold shS
          rw [eU _ (by omega) (by omega), eU _ (by omega) (by omega), eU _ (by omega) (by omega), eU _ (by omega) (by omega), eU _ (by omega) (by omega)]
        rw [f_X9_answers_76]
        simp (disch := omega) only [ite_true, IM, IA, IR, IC, IN, nI_add, pk_mul, xin_n, cl_n, xgd_n, ↓xl_n, xb_n, xb2_n, xw_wV, wV_150, y, y1, y3, y4, y5, e, yt, sh, pr9, upd_ne, upd_eq]
        rw [if_neg (by rw [le_n (by omega) (by omega)]; omega)]
        have u1 : U (8 + nN V (164 + 4 * (4 * r + i) + 2)) = acV V (nI s) r a b u i (8 + nN V (164 + 4 * (4 * r + i) + 2)) := by rw [← hU]; simp (disch := omega) only [upd_ne]
        have u2 : U (16 + s) = V (16 + s) + feV V (nI s) r a b u i := by rw [← hU]; simp (disch := omega) only [upd_ne, upd_eq]
        have u3 : U (756 + 10 * q + 9) = feV V (nI s) r a b u i := by rw [← hU]; simp (disch := omega) only [upd_ne, upd_eq]
        have s1 : acV V (nI s) r a b u (i + 1) = upd (acV V (nI s) r a b u i) (8 + nN V (164 + 4 * (4 * r + i) + 2)) (acV V (nI s) r a b u i (8 + nN V (164 + 4 * (4 * r + i) + 2)) + shS V (4 * r + i) (nI s) a b * prI u) := rfl
        have s2 : feV V (nI s) r a b u (i + 1) = feV V (nI s) r a b u i + shS V (4 * r + i) (nI s) a b * prI u := rfl
        rw [u1, u2, u3, Int32.add_assoc, ← s2, ← hU, upd_ow, ← s1]
        exact p1
    unfold f_X9_answers_73
    rw [xl_n]
    have z0 : upd (upd (acV V (nI s) r a b u 0) (16 + s) (V (16 + s) + feV V (nI s) r a b u 0)) (756 + 10 * q + 9) (feV V (nI s) r a b u 0) = V := by
      show upd (upd V (16 + s) (V (16 + s) + 0)) (756 + 10 * q + 9) 0 = V
      rw [upd_id (k := 16 + s) (Int32.add_zero _).symm, upd_id fee0]
    have := k9 n 0 xFU (by omega) (by unfold xFU; omega)
    rw [z0] at this
    exact this
  · rw [ev j (by omega) (by omega) (by omega) (by omega) (by omega)]; exact hz j hj
