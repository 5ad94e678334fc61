theorem mp8 {V : Nat → Int32} (ho : Ok V) (hz : Z916 V) {c m n l h s : Nat} {sp : Int32} (hc : c < nN V 1) (hm : m < nN V 2) (hn : nN V 4 = n) (hn24 : n < 24) (el : V (24 + 5 * c + 2) = nI l) (eh : V (64 + 5 * m + 2) = nI h) (r1 : rg sp 1 380) (hl : l ≤ 3) (hh : h ≤ 3) (hs : s < 2) (M : xM) (hM : Vw V M) : ∃ y M1 K, f_X8_makePass M (nI c) (nI m) sp (nI s) = some (nI n, M1) ∧ (f_X3_tracksOfSide (nI l) (nI s)).map (fun w => thM (cpF V c m l h sp s) 1 4 &&& (w ^^^ (-1))) = some y ∧ St (passV V n c m sp s (cpF V c m l h sp s)) M1 K ∧ K = xw (xw (xw (xw M 11 (n * 11 + 5) (thM (cpF V c m l h sp s) 1 4)) 11 (n * 11 + 6) y) 3 (c * 7 + 5) (nI (psO V c + 1))) 5 (m * 6 + 5) (nI (pmO V m + 1)) := by
  have c1 := ok_c1 ho
  have c2 := ok_c2 ho
  have v4 : V 4 = nI n := by rw [← hn]; exact ok_n4 ho
  generalize hf : cpF V c m l h sp s = f
  have h0 := St_0 hM hz
  obtain ⟨M1, e1, h1, n1⟩ := sa_pas h0 v4 (by omega) (by omega)
  have hdM : M 3 (c * 7 + 5) = nI (psO V c) := hM.2.1.2.1.1 c (by omega)
  have hmM : M 5 (m * 6 + 5) = nI (pmO V m) := hM.2.1.2.1.2.2.1 m (by omega)
  have hd1 : M1 3 (c * 7 + 5) = nI (psO V c) := (h1.2.2.2.2.1 c 5 (by omega) (by decide) (by decide)).trans hdM
  have cap1 : ∀ t, t < 4 → f_X8_captureNow M1 (nI c) (nI m) sp (nI s) (nI t) = some (f t) := fun t ht => by
    rw [← hf]; exact capSt ho hc hm el eh r1 hl hh hs h1 (fun j hj => upd_ne (by omega)) hd1 ht
  have th := th8 cap1 1
  have w1 : upd V 4 (nI (n + 1)) 1 = nI (nN V 1) := (upd_ne (by decide)).trans (ok_n1 ho)
  have g2 : f_X6_get 2 3 56 M1 (nI c) 2 = some (nI l) := by
    rw [s_get_car h1 w1 c1 (c := 2) 2 hc rfl (by decide), h1.1.1 c 2 (by omega) (by decide), upd_ne (by omega), el]
  obtain ⟨w, tw⟩ := ts_ex ⟨l, by omega⟩ ⟨s, hs⟩
  have tw' : f_X3_tracksOfSide (nI l) (nI s) = some (nI w.val) := tw
  obtain ⟨M2, e2, h2, n2⟩ := sx_pas h1 n1 (by omega) (r := n) (c := 0) 0 (nI c) (by omega) rfl (by decide)
  obtain ⟨M3, e3, h3, n3⟩ := sx_pas h2 n2 (by omega) (r := n) (c := 1) 1 (nI m) (by omega) rfl (by decide)
  obtain ⟨M4, e4, h4, n4⟩ := sx_pas h3 n3 (by omega) (r := n) (c := 2) 2 sp (by omega) rfl (by decide)
  obtain ⟨M5, e5, h5, n5⟩ := sx_pas h4 n4 (by omega) (r := n) (c := 3) 3 (nI s) (by omega) rfl (by decide)
  have td : M5 1 8 = V 0 := (s_today h5).trans (by simp (disch := omega) only [upd_ne])
  obtain ⟨M6, e6, h6, n6⟩ := sx_pas h5 n5 (by omega) (r := n) (c := 4) 4 (V 0) (by omega) rfl (by decide)
  have eU0 : ∀ j, j ≠ 4 → (j < 420 + 9 * n ∨ 420 + 9 * n + 5 ≤ j) → upd (upd (upd (upd (upd (upd V 4 (nI (n + 1))) (420 + 9 * n + 0) (nI c)) (420 + 9 * n + 1) (nI m)) (420 + 9 * n + 2) sp) (420 + 9 * n + 3) (nI s)) (420 + 9 * n + 4) (V 0) j = V j := fun j g1 g2 => by simp (disch := omega) only [upd_ne]
  have eU1 : upd (upd (upd (upd (upd (upd V 4 (nI (n + 1))) (420 + 9 * n + 0) (nI c)) (420 + 9 * n + 1) (nI m)) (420 + 9 * n + 2) sp) (420 + 9 * n + 3) (nI s)) (420 + 9 * n + 4) (V 0) = upd (paV V n c m sp s) 4 (nI (n + 1)) := by
    unfold paV
    simp (disch := omega) only [upd_out 4]
  rw [eU1] at h6 n6 eU0
  generalize hU : upd (paV V n c m sp s) 4 (nI (n + 1)) = U at *
  have e7 := s_setk_pas h6 n6 (by omega) (r := n) (c := 5) 5 (thM f 1 4) (by omega) rfl (by decide)
  have h7 := sd_pas h6 (r := n) (c := 5) hn24 (by decide) (thM f 1 4)
  have e8 := s_setk_pas h7 n6 (by omega) (r := n) (c := 6) 6 (thM f 1 4 &&& (nI w.val ^^^ (-1))) (by omega) rfl (by decide)
  have h8 := sd_pas h7 (r := n) (c := 6) hn24 (by decide) (thM f 1 4 &&& (nI w.val ^^^ (-1)))
  generalize hM8 : xw (xw M6 11 (n * 11 + 5) (thM f 1 4)) 11 (n * 11 + 6) (thM f 1 4 &&& (nI w.val ^^^ (-1))) = M8 at *
  have hK0 : xw (xw M 11 (n * 11 + 5) (thM f 1 4)) 11 (n * 11 + 6) (thM f 1 4 &&& (nI w.val ^^^ (-1))) 3 (c * 7 + 5) = nI (psO V c) := by
    rw [xw_ne (by decide), xw_ne (by decide)]; exact hdM
  have hK5 : xw (xw M 11 (n * 11 + 5) (thM f 1 4)) 11 (n * 11 + 6) (thM f 1 4 &&& (nI w.val ^^^ (-1))) 5 (m * 6 + 5) = nI (pmO V m) := by
    rw [xw_ne (by decide), xw_ne (by decide)]; exact hmM
  generalize hK : xw (xw M 11 (n * 11 + 5) (thM f 1 4)) 11 (n * 11 + 6) (thM f 1 4 &&& (nI w.val ^^^ (-1))) = K at *
  have lp := mp_loop ho hc hm hn24 el eh r1 hl hh hs (U := U) (K := K) (fun j hj => eU0 j (by omega) (by omega)) n6 hK0 (thM f 1 4) (nI w.val) 4 0 xFU M8 (by omega) (by unfold xFU; omega) h8
  rw [hf] at lp
  obtain ⟨M9, l1, h9⟩ := lp
  have eq : ∀ j, (j < 420 ∨ 636 ≤ j) → cqV U n f 4 j = U j := fun j hj => cqV_ne (fun t ht => by omega)
  have u1 : cqV U n f 4 1 = nI (nN V 1) := (eq 1 (by omega)).trans ((eU0 1 (by omega) (by omega)).trans (ok_n1 ho))
  have u2 : cqV U n f 4 2 = nI (nN V 2) := (eq 2 (by omega)).trans ((eU0 2 (by omega) (by omega)).trans (ok_n2 ho))
  have ec : ∀ j, 24 ≤ j → j < 84 → cqV U n f 4 j = V j := fun j a1 a2 => (eq j (by omega)).trans (eU0 j (by omega) (by omega))
  have hd9 : M9 3 (c * 7 + 5) = nI (psO V c) := (h9.2.2.2.2.1 c 5 (by omega) (by decide) (by decide)).trans hK0
  have e10 := s_addk_car h9 u1 c1 (r := c) (c := 5) 5 1 hc rfl (by decide)
  rw [hd9, ir_1] at e10
  have h10 := sd_car h9 (r := c) (c := 5) (by omega) (by decide) (nI (psO V c + 1))
  generalize hM10 : xw M9 3 (c * 7 + 5) (nI (psO V c + 1)) = M10 at *
  have g1 : f_X6_get 2 3 56 M10 (nI c) 1 = some (V (24 + 5 * c + 1)) := by
    rw [s_get_car h10 u1 c1 (c := 1) 1 hc rfl (by decide), h10.1.1 c 1 (by omega) (by decide), ec _ (by omega) (by omega)]
  have pl := pl8 g1 sp
  have e11 := s_addk_car h10 u1 c1 (r := c) (c := 4) 4 (-plV V c sp) hc rfl (by decide)
  have h11 := w_car h10 (r := c) (c := 4) (by omega) (by decide) (V (24 + 5 * c + 4) - plV V c sp)
  rw [h10.1.1 c 4 (by omega) (by decide), ec _ (by omega) (by omega), ← Int32.sub_eq_add_neg] at e11
  generalize hM11 : xw M10 3 (c * 7 + 4) (V (24 + 5 * c + 4) - plV V c sp) = M11 at *
  have u2' : upd (cqV U n f 4) (24 + 5 * c + 4) (V (24 + 5 * c + 4) - plV V c sp) 2 = nI (nN V 2) := (upd_ne (by omega)).trans u2
  have u1' : upd (cqV U n f 4) (24 + 5 * c + 4) (V (24 + 5 * c + 4) - plV V c sp) 1 = nI (nN V 1) := (upd_ne (by omega)).trans u1
  have hd11 : M11 5 (m * 6 + 5) = nI (pmO V m) := by
    have := h11.2.2.2.2.2.1 m (by omega)
    rw [this, xw_ne (by decide)]; exact hK5
  have e12 := s_addk_mac h11 u2' c2 (r := m) (c := 5) 5 1 hm rfl (by decide)
  rw [hd11, ir_1] at e12
  have h12 := sd_mac h11 (r := m) (by omega) (nI (pmO V m + 1))
  generalize hM12 : xw M11 5 (m * 6 + 5) (nI (pmO V m + 1)) = M12 at *
  have g1' : f_X6_get 2 3 56 M12 (nI c) 1 = some (V (24 + 5 * c + 1)) := by
    rw [s_get_car h12 u1' c1 (c := 1) 1 hc rfl (by decide), h12.1.1 c 1 (by omega) (by decide), upd_ne (by omega), ec _ (by omega) (by omega)]
  have g3' : f_X6_get 2 3 56 M12 (nI c) 3 = some (V (24 + 5 * c + 3)) := by
    rw [s_get_car h12 u1' c1 (c := 3) 3 hc rfl (by decide), h12.1.1 c 3 (by omega) (by decide), upd_ne (by omega), ec _ (by omega) (by omega)]
  have tm := tm8 g1' g3' r1
  have e13 := s_addk_mac h12 u2' c2 (r := m) (c := 4) 4 (-tmV V c sp) hm rfl (by decide)
  have h13 := w_mac h12 (r := m) (c := 4) (by omega) (by decide) (V (64 + 5 * m + 4) - tmV V c sp)
  rw [h12.1.2.1 m 4 (by omega) (by decide), upd_ne (by omega), ec _ (by omega) (by omega), ← Int32.sub_eq_add_neg] at e13
  generalize hM13 : xw M12 5 (m * 6 + 4) (V (64 + 5 * m + 4) - tmV V c sp) = M13 at *
  have h14 := w_rsn h13 0
  have hfin : upd (upd (upd (cqV U n f 4) (24 + 5 * c + 4) (V (24 + 5 * c + 4) - plV V c sp)) (64 + 5 * m + 4) (V (64 + 5 * m + 4) - tmV V c sp)) 7 0 = passV V n c m sp s f := by
    unfold passV
    rw [← hU, cqV_out 4 (fun t ht => by omega)]
    simp (disch := omega) only [upd_out 4]
  rw [hfin] at h14
  refine ⟨thM f 1 4 &&& (nI w.val ^^^ (-1)), _, _, ?_, by rw [tw']; rfl, h14, by rw [hK]⟩
  unfold f_X8_makePass
  simp only [e1, xb2_n, xl_n, th, xb_n, g2, tw', e2, e3, e4, e5, td, e6, e7, e8]
  refine l1.trans ?_
  obtain ⟨g, hg⟩ : ∃ g, xFU - 4 = g + 1 := ⟨999995, rfl⟩
  have pl' : f_X8_playsOfPass M10 (nI c) sp = some (plV V c sp) := pl
  have tm' : f_X8_secondsOfPass M12 (nI c) sp = some (tmV V c sp) := tm
  rw [hg, f_X8_makePass_159, if_pos (by decide), e10, xb_n, pl', xb_n, e11, xb_n, e12, xb_n, tm', xb_n, e13, xb_n, xl_n]

