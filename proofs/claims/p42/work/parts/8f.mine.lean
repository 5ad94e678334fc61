theorem cqV_out {U : Nat → Int32} {n k : Nat} {x : Int32} {f : Nat → Int32} : ∀ i, (∀ t, t < i → k ≠ 420 + 9 * n + 5 + t) → cqV (upd U k x) n f i = upd (cqV U n f i) k x
  | 0, _ => rfl
  | i + 1, h => by
    show upd (cqV (upd U k x) n f i) _ _ = upd (upd (cqV U n f i) _ _) k x
    rw [cqV_out i (fun t ht => h t (by omega)), upd_out k (fun q => h i (by omega) q.symm)]
theorem Ok_ps {V V2 : Nat → Int32} (h : Ok V) {n c m : Nat} (hn : nN V 4 = n) (hn24 : n < 24) (hc : c < 8) (hm : m < 4) (e : ∀ j, j ≠ 4 → j ≠ 7 → j ≠ 24 + 5 * c + 4 → j ≠ 64 + 5 * m + 4 → (j < 420 + 9 * n ∨ 420 + 9 * n + 9 ≤ j) → V2 j = V j) (h4 : V2 4 = nI (n + 1)) (hP : OkP V2 n) : Ok V2 := by
  obtain ⟨⟨a1, a2, a3, a4, a5, a6, a7, a8, a9, a10, a11, a12, a13⟩, b1, b2, b3, b4, b5, b6, b7, b8, b9, b10⟩ := h
  have y : ∀ j, j ≠ 4 → j < 7 → nN V2 j = nN V j := fun j hj h8 => by unfold nN; rw [e j (by omega) (by omega) (by omega) (by omega) (by omega)]
  have y1 := y 1 (by decide) (by decide)
  have y2 := y 2 (by decide) (by decide)
  have y3 := y 3 (by decide) (by decide)
  have y5 := y 5 (by decide) (by decide)
  have y6 := y 6 (by decide) (by decide)
  have y4 : nN V2 4 = n + 1 := nN_of h4 (by omega)
  refine ⟨⟨by rw [y1, e 1 (by omega) (by omega) (by omega) (by omega) (by omega)]; exact a1, by omega, by rw [y2, e 2 (by omega) (by omega) (by omega) (by omega) (by omega)]; exact a3, by omega, by rw [y3, e 3 (by omega) (by omega) (by omega) (by omega) (by omega)]; exact a5, by omega, by rw [y4]; exact h4, by omega, by rw [y5, e 5 (by omega) (by omega) (by omega) (by omega) (by omega)]; exact a9, by omega, by rw [y6, e 6 (by omega) (by omega) (by omega) (by omega) (by omega)]; exact a11, by omega, by rw [e 0 (by omega) (by omega) (by omega) (by omega) (by omega)]; exact a13⟩, fun q hq => OkC_c (b1 q (by omega)) (fun k hk => e _ (by omega) (by omega) (by omega) (by omega) (by omega)), fun q hq => OkM_c (b2 q (by omega)) (fun k hk => e _ (by omega) (by omega) (by omega) (by omega) (by omega)), fun q hq => OkR_c (b3 q (by omega)) (by omega) (fun k hk => e _ (by omega) (by omega) (by omega) (by omega) (by omega)), fun q h1 h2 => by rw [e _ (by omega) (by omega) (by omega) (by omega) (by omega)]; exact b4 q (by omega) h2, fun q j hq hj => ?_, fun p hp => ?_, fun q hq => by rw [e _ (by omega) (by omega) (by omega) (by omega) (by omega)]; exact b7 q (by omega), fun q h1 h2 => by rw [e _ (by omega) (by omega) (by omega) (by omega) (by omega)]; exact b8 q (by omega) h2, fun q hq => OkQ_c (b9 q (by omega)) (by omega) (fun k hk => e _ (by omega) (by omega) (by omega) (by omega) (by omega)), fun q h1 h2 => by rw [e _ (by omega) (by omega) (by omega) (by omega) (by omega)]; exact b10 q (by omega) h2⟩
  · have w : nN V2 (84 + 5 * q + 4) = nN V (84 + 5 * q + 4) := by unfold nN; rw [e _ (by omega) (by omega) (by omega) (by omega) (by omega)]
    have l4 := (b3 q (by omega)).2.2.2.2.2.2
    exact OkT_c (b5 q j (by omega) (by omega)) (fun k hk => e _ (by omega) (by omega) (by omega) (by omega) (by omega))
  · by_cases hpn : p = n
    · rw [hpn]; exact hP
    · exact OkP_c (b6 p (by omega)) (by omega) (by omega) (fun k hk => e _ (by omega) (by omega) (by omega) (by omega) (by omega))
theorem mp_loop {V : Nat → Int32} (ho : Ok V) {c m n l h s : Nat} {sp : Int32} (hc : c < nN V 1) (hm : m < nN V 2) (hn24 : n < 24) (el : V (24 + 5 * c + 2) = nI l) (eh : V (64 + 5 * m + 2) = nI h) (r1 : rg sp 1 380) (hl : l ≤ 3) (hh : h ≤ 3) (hs : s < 2) {U : Nat → Int32} {K : xM} (eU : ∀ j, (j = 1 ∨ j = 2 ∨ (24 ≤ j ∧ j < 84)) → U j = V j) (u4 : U 4 = nI (n + 1)) (hK : K 3 (c * 7 + 5) = nI (psO V c)) (i6 i7 : Int32) : ∀ (d i fu : Nat) (M : xM), i + d = 4 → d < fu → St (cqV U n (cpF V c m l h sp s) i) M K → ∃ M1, f_X8_makePass_159 fu M (nI c) (nI m) sp (nI s) (nI n) i6 i7 (nI i) = f_X8_makePass_159 (fu - d) M1 (nI c) (nI m) sp (nI s) (nI n) i6 i7 (nI 4) ∧ St (cqV U n (cpF V c m l h sp s) 4) M1 K := by
  have c1 := ok_c1 ho
  intro d
  induction d with
  | zero =>
    intro i fu M e1 e2 hS
    have : i = 4 := by omega
    subst this
    exact ⟨M, rfl, hS⟩
  | succ d ih =>
    intro i fu M e1 e2 hS
    obtain ⟨g, rfl⟩ : ∃ g, fu = g + 1 := ⟨fu - 1, by omega⟩
    have hd : M 3 (c * 7 + 5) = nI (psO V c) := (hS.2.2.2.2.1 c 5 (by omega) (by decide) (by decide)).trans hK
    have eq : ∀ j, (j < 420 ∨ 636 ≤ j) → cqV U n (cpF V c m l h sp s) i j = U j := fun j hj => cqV_ne (fun t ht => by omega)
    have cap := capSt ho hc hm el eh r1 hl hh hs hS (fun j hj => (eq j (by omega)).trans (eU j hj)) hd (t := i) (by omega)
    have n4 : cqV U n (cpF V c m l h sp s) i 4 = nI (n + 1) := (eq 4 (by omega)).trans u4
    have st := s_setk_pas hS n4 (by omega) (r := n) (c := 7 + nI i) (7 + i) (cpF V c m l h sp s i) (by omega) (ia_7 i) (by omega)
    have hW := w_pas7 hS (r := n) (c := i) hn24 (by omega) (cpF V c m l h sp s i)
    obtain ⟨M1, p1, p2⟩ := ih (i + 1) g (xw M 11 (n * 11 + (7 + i)) (cpF V c m l h sp s i)) (by omega) (by omega) hW
    refine ⟨M1, ?_, p2⟩
    rw [f_X8_makePass_159, if_neg (by rw [li_4, le_n (by omega) (by omega)]; omega), cap, xb_n, st, xb_n, xl_n, ir_1, show g + 1 - (d + 1) = g - d by omega]
    exact p1

