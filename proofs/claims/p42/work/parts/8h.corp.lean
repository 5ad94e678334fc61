theorem core_pass {V : Nat → Int32} (ho : Ok V) (hz : Z916 V) {c m n l h s : Nat} {sp : Int32} (hc : c < nN V 1) (hm : m < nN V 2) (hn : nN V 4 = n) (hn24 : n < 24) (el : V (24 + 5 * c + 2) = nI l) (eh : V (64 + 5 * m + 2) = nI h) (r1 : rg sp 1 380) (hl : l ≤ 3) (hh : h ≤ 3) (hs : s < 2) (f5 i6 i7 : Int32) : Core (fun K => ∀ t, t < 4 → K t = cpF V c m l h sp s t) V (passV V n c m sp s (cpF V c m l h sp s)) (nI n) (fun M => f_X8_makePass M (nI c) (nI m) sp (nI s)) (fun M => f_X9_plays_56 M (nI c) (nI m) sp (nI s) f5 i6 i7) := by
  have c1 := ok_c1 ho
  have c2 := ok_c2 ho
  have c3 := ok_c3 ho
  have r0 := (ho.2.1 c hc).2.1
  have rv := (ho.2.2.1 m hm).2.2.2
  have hps : psO V c ≤ 24 := by unfold psO; exact Nat.le_trans (cN_le _ _) (by omega)
  have fr100 : ∀ t, t < 4 → rg (cpF V c m l h sp s t) 0 100 := fun t ht => cap_rg rv r0 r1 hps hl hh hs ht
  have f0 : ∀ t, t < 4 → ¬ t < trN l → cpF V c m l h sp s t = 0 := fun t _ q => if_neg q
  generalize hf : cpF V c m l h sp s = f at *
  generalize hV2 : passV V n c m sp s f = V2
  have hV2' := hV2
  unfold passV at hV2'
  have e : ∀ j, j ≠ 4 → j ≠ 7 → j ≠ 24 + 5 * c + 4 → j ≠ 64 + 5 * m + 4 → (j < 420 + 9 * n ∨ 420 + 9 * n + 9 ≤ j) → V2 j = V j := fun j a1 a2 a3 a4 a5 => by
    rw [← hV2']; simp (disch := omega) only [upd_ne]; rw [cqV_ne (fun t ht => by omega)]; unfold paV; simp (disch := omega) only [upd_ne]
  have e4 : V2 4 = nI (n + 1) := by rw [← hV2']; exact upd_eq
  have q0 : V2 (420 + 9 * n) = nI c := by
    rw [← hV2']; simp (disch := omega) only [upd_ne]; rw [cqV_ne (fun t ht => by omega)]; unfold paV; simp (disch := omega) only [upd_ne]; exact upd_eq
  have q1 : V2 (420 + 9 * n + 1) = nI m := by
    rw [← hV2']; simp (disch := omega) only [upd_ne]; rw [cqV_ne (fun t ht => by omega)]; unfold paV; simp (disch := omega) only [upd_ne, upd_eq]
  have q3 : V2 (420 + 9 * n + 3) = nI s := by
    rw [← hV2']; simp (disch := omega) only [upd_ne]; rw [cqV_ne (fun t ht => by omega)]; unfold paV; simp (disch := omega) only [upd_ne, upd_eq]
  have q5 : ∀ t, t < 4 → V2 (420 + 9 * n + 5 + t) = f t := fun t ht => by
    rw [← hV2']; simp (disch := omega) only [upd_ne]; exact cqV_at ht
  have x1 : nN V2 1 = nN V 1 := by unfold nN; rw [e 1 (by omega) (by omega) (by omega) (by omega) (by omega)]
  have x2 : nN V2 2 = nN V 2 := by unfold nN; rw [e 2 (by omega) (by omega) (by omega) (by omega) (by omega)]
  have x3 : nN V2 3 = nN V 3 := by unfold nN; rw [e 3 (by omega) (by omega) (by omega) (by omega) (by omega)]
  have x4 : nN V2 4 = n + 1 := nN_of e4 (by omega)
  have z0 : nN V2 (420 + 9 * n) = c := nN_of q0 (by omega)
  have z1 : nN V2 (420 + 9 * n + 1) = m := nN_of q1 (by omega)
  have ok2 : Ok V2 := by
    refine Ok_ps ho hn hn24 (by omega) (by omega) e e4 ?_
    unfold OkP
    rw [z0, z1, x1, x2]
    exact ⟨q0, hc, q1, hm, fun t ht => by rw [q5 t ht]; exact fr100 t ht⟩
  have zz : Z916 V2 := fun j hj => by rw [e j (by omega) (by omega) (by omega) (by omega) (by omega)]; exact hz j hj
  refine ⟨fun M hM => ?_, fun M hK hC => ⟨M, ?_, fun _ _ => rfl⟩, zz⟩
  · obtain ⟨y, M1, K, p1, p2, p3, p4⟩ := mp8 ho hz hc hm hn hn24 el eh r1 hl hh hs M hM
    rw [hf] at p2 p3 p4
    rw [hV2] at p3
    have hD := hM.2.1.2.1
    refine ⟨M1, p1, ⟨trivial, ⟨p3.1, ?_, ok2⟩, p3.2.1, trivial⟩, fun k hk => by rw [p3.2.2.2.1 k hk, p4, xw_ne (by omega), xw_ne (by omega), xw_ne (by omega), xw_ne (by omega)]⟩
    have psE : ∀ r, psO V2 r = psO V r + (if decide (nI c = nI r) = true then 1 else 0) := fun r => by
      unfold psO
      rw [x4, hn]
      show cN _ n + (if decide (V2 (420 + 9 * n) = nI r) = true then 1 else 0) = _
      rw [q0]
      congr 1
      exact cN_congr (fun p hp => by rw [e _ (by omega) (by omega) (by omega) (by omega) (by omega)])
    have pmE : ∀ r, pmO V2 r = pmO V r + (if decide (nI m = nI r) = true then 1 else 0) := fun r => by
      unfold pmO
      rw [x4, hn]
      show cN _ n + (if decide (V2 (420 + 9 * n + 1) = nI r) = true then 1 else 0) = _
      rw [q1]
      congr 1
      exact cN_congr (fun p hp => by rw [e _ (by omega) (by omega) (by omega) (by omega) (by omega)])
    refine ⟨fun r hr => ?_, fun r hr => ?_, fun r hr => ?_, fun r hr => ?_, fun p hp => ?_, fun p hp => ?_⟩
    · rw [p3.2.2.2.2.1 r 5 hr (by decide) (by decide), p4, xw_ne (by decide), psE]
      by_cases hrc : r = c
      · rw [hrc, xw_same]; simp
      · rw [xw_o (by omega), xw_ne (by decide), xw_ne (by decide), hD.1 r hr, if_neg (by simp; rw [eq_n (by omega) (by omega)]; omega)]
        rfl
    · rw [p3.2.2.2.2.1 r 6 hr (by decide) (by decide), p4, xw_ne (by decide), xw_o (by omega), xw_ne (by decide), xw_ne (by decide), hD.2.1 r hr]
      unfold rcO
      rw [x3]
      exact congrArg nI (cN_congr (fun p hp => by rw [e _ (by omega) (by omega) (by omega) (by omega) (by omega)]))
    · rw [p3.2.2.2.2.2.1 r hr, p4, pmE]
      by_cases hrm : r = m
      · rw [hrm, xw_same]; simp
      · rw [xw_o (by omega), xw_ne (by decide), xw_ne (by decide), xw_ne (by decide), hD.2.2.1 r hr, if_neg (by simp; rw [eq_n (by omega) (by omega)]; omega)]
        rfl
    · rw [x3] at hr
      have k2 := (ho.2.2.2.1 r hr).2.1
      have lr : lyR V2 r = lyR V r := by
        unfold lyR
        have : nN V2 (84 + 5 * r) = nN V (84 + 5 * r) := by unfold nN; rw [e _ (by omega) (by omega) (by omega) (by omega) (by omega)]
        rw [this, e _ (by omega) (by omega) (by omega) (by omega) (by omega)]
      rw [p3.2.2.2.2.2.2.1 r (by omega), p4, xw_ne (by decide), xw_ne (by decide), xw_ne (by decide), xw_ne (by decide), lr, e _ (by omega) (by omega) (by omega) (by omega) (by omega)]
      exact hD.2.2.2.1 r hr
    · rw [x4] at hp
      rw [p3.2.2.2.2.2.2.2 p 5 (by omega) (by decide) (by decide), p4, xw_ne (by decide), xw_ne (by decide)]
      by_cases hpn : p = n
      · rw [hpn, xw_o (by omega), xw_same, th_b]
        unfold tkO
        rw [q5 0 (by decide), q5 1 (by decide), q5 2 (by decide), q5 3 (by decide)]
        have tf := tk_fin (decide (0 < f 0)) (decide (0 < f 1)) (decide (0 < f 2)) (decide (0 < f 3))
        simp only [decide_eq_true_eq] at tf
        rw [tf]
        rfl
      · rw [xw_o (by omega), xw_o (by omega), hD.2.2.2.2.1 p (by omega)]
        unfold tkO
        rw [e (420 + 9 * p + 5 + 0) (by omega) (by omega) (by omega) (by omega) (by omega), e (420 + 9 * p + 5 + 1) (by omega) (by omega) (by omega) (by omega) (by omega), e (420 + 9 * p + 5 + 2) (by omega) (by omega) (by omega) (by omega) (by omega), e (420 + 9 * p + 5 + 3) (by omega) (by omega) (by omega) (by omega) (by omega)]
    · rw [x4] at hp
      rw [p3.2.2.2.2.2.2.2 p 6 (by omega) (by decide) (by decide), p4, xw_ne (by decide), xw_ne (by decide)]
      by_cases hpn : p = n
      · have bf := bk_fin ⟨l, by omega⟩ ⟨s, hs⟩ (decide (0 < f 0)) (decide (0 < f 1)) (decide (0 < f 2)) (decide (0 < f 3))
        have imp : ∀ t, t < 4 → decide (0 < f t) = true → t < trN l := fun t ht q => by
          by_cases w : t < trN l
          · exact w
          · have := of_decide_eq_true q
            rw [f0 t ht w] at this
            exact absurd this (by decide)
        have bf2 := bf (imp 1 (by decide)) (imp 2 (by decide)) (imp 3 (by decide))
        simp only [decide_eq_true_eq] at bf2
        rw [th_b] at p2
        have hy := p2.symm.trans bf2
        rw [hpn, xw_same, Option.some.inj hy]
        unfold bkO lyP
        rw [z0, e (24 + 5 * c + 2) (by omega) (by omega) (by omega) (by omega) (by omega), el, q3, q5 0 (by decide), q5 1 (by decide), q5 2 (by decide), q5 3 (by decide)]
      · have hP := (ho.2.2.2.2.2.2.1 p (by omega)).2.1
        have lp : lyP V2 p = lyP V p := by
          unfold lyP
          have : nN V2 (420 + 9 * p) = nN V (420 + 9 * p) := by unfold nN; rw [e _ (by omega) (by omega) (by omega) (by omega) (by omega)]
          rw [this, e _ (by omega) (by omega) (by omega) (by omega) (by omega)]
        rw [xw_o (by omega), xw_o (by omega), hD.2.2.2.2.2 p (by omega)]
        unfold bkO
        rw [lp, e (420 + 9 * p + 3) (by omega) (by omega) (by omega) (by omega) (by omega), e (420 + 9 * p + 5 + 0) (by omega) (by omega) (by omega) (by omega) (by omega), e (420 + 9 * p + 5 + 1) (by omega) (by omega) (by omega) (by omega) (by omega), e (420 + 9 * p + 5 + 2) (by omega) (by omega) (by omega) (by omega) (by omega), e (420 + 9 * p + 5 + 3) (by omega) (by omega) (by omega) (by omega) (by omega)]
  · have := pl128 ho (h := h) (l := l) hc hm hn hn24 r1 f M hC f5 i6 i7 (s := s)
    rw [hV2] at this
    exact this

