theorem capSt {V V2 : Nat → Int32} {M K : xM} (ho : Ok V) {c m l h s : Nat} {sp : Int32} (hc : c < nN V 1) (hm : m < nN V 2) (el : V (24 + 5 * c + 2) = nI l) (eh : V (64 + 5 * m + 2) = nI h) (r1 : rg sp 1 380) (hl : l ≤ 3) (hh : h ≤ 3) (hs : s < 2) (hS : St V2 M K) (e : ∀ j, (j = 1 ∨ j = 2 ∨ (24 ≤ j ∧ j < 84)) → V2 j = V j) (hd : M 3 (c * 7 + 5) = nI (psO V c)) {t : Nat} (ht : t < 4) : f_X8_captureNow M (nI c) (nI m) sp (nI s) (nI t) = some (cpF V c m l h sp s t) := by
  have c1 := ok_c1 ho
  have c2 := ok_c2 ho
  have v1 : V2 1 = nI (nN V 1) := (e 1 (by omega)).trans (ok_n1 ho)
  have v2 : V2 2 = nI (nN V 2) := (e 2 (by omega)).trans (ok_n2 ho)
  refine cap8 (sp0 := V (24 + 5 * c + 1)) (vol := V (64 + 5 * m + 3)) (ps := psO V c) ?_ ?_ ?_ ?_ ?_ (ho.2.1 c hc).2.1 r1 hl hh hs ht
  · rw [s_get_car hS v1 c1 (c := 1) 1 hc rfl (by decide), hS.1.1 c 1 (by omega) (by decide), e _ (by omega)]
  · rw [s_get_car hS v1 c1 (c := 2) 2 hc rfl (by decide), hS.1.1 c 2 (by omega) (by decide), e _ (by omega), el]
  · rw [s_get_mac hS v2 c2 (c := 2) 2 hm rfl (by decide), hS.1.2.1 m 2 (by omega) (by decide), e _ (by omega), eh]
  · rw [s_get_mac hS v2 c2 (c := 3) 3 hm rfl (by decide), hS.1.2.1 m 3 (by omega) (by decide), e _ (by omega)]
  · rw [s_get_car hS v1 c1 (c := 5) 5 hc rfl (by decide), hd]
def cqV (U : Nat → Int32) (n : Nat) (f : Nat → Int32) : Nat → Nat → Int32
  | 0 => U
  | t + 1 => upd (cqV U n f t) (420 + 9 * n + 5 + t) (f t)
theorem cqV_ne {U : Nat → Int32} {n : Nat} {f : Nat → Int32} {j : Nat} : ∀ {i : Nat}, (∀ t, t < i → j ≠ 420 + 9 * n + 5 + t) → cqV U n f i j = U j
  | 0, _ => rfl
  | i + 1, h => by
    show upd (cqV U n f i) _ _ j = _
    rw [upd_ne (h i (by omega)), cqV_ne (fun t ht => h t (by omega))]
theorem cqV_at {U : Nat → Int32} {n : Nat} {f : Nat → Int32} {t : Nat} : ∀ {i : Nat}, t < i → cqV U n f i (420 + 9 * n + 5 + t) = f t
  | 0, h => by omega
  | i + 1, h => by
    show upd (cqV U n f i) _ _ _ = _
    by_cases q : t = i
    · subst q; exact upd_eq
    · rw [upd_ne (by omega)]; exact cqV_at (by omega)
def paV (V : Nat → Int32) (n c m : Nat) (sp : Int32) (s : Nat) : Nat → Int32 := upd (upd (upd (upd (upd V (420 + 9 * n + 0) (nI c)) (420 + 9 * n + 1) (nI m)) (420 + 9 * n + 2) sp) (420 + 9 * n + 3) (nI s)) (420 + 9 * n + 4) (V 0)
def passV (V : Nat → Int32) (n c m : Nat) (sp : Int32) (s : Nat) (f : Nat → Int32) : Nat → Int32 :=
  upd (upd (upd (upd (cqV (paV V n c m sp s) n f 4) (24 + 5 * c + 4) (V (24 + 5 * c + 4) - plV V c sp)) (64 + 5 * m + 4) (V (64 + 5 * m + 4) - tmV V c sp)) 7 0) 4 (nI (n + 1))
theorem pl128 {V : Nat → Int32} (ho : Ok V) {c m n l h s : Nat} {sp : Int32} (hc : c < nN V 1) (hm : m < nN V 2) (hn : nN V 4 = n) (hn24 : n < 24) (r1 : rg sp 1 380) (f : Nat → Int32) (M : xM) (hf : ∀ t, t < 4 → M 157 t = f t) (f5 i6 i7 : Int32) : f_X9_plays_56 (wV M V) (nI c) (nI m) sp (nI s) f5 i6 i7 = some (nI n, wV M (passV V n c m sp s f)) := by
  have c1 := ok_c1 ho
  have c2 := ok_c2 ho
  have v4 : V 4 = nI n := by rw [← hn]; exact ok_n4 ho
  have w157 : ∀ U, wV M U 157 = M 157 := fun U => wV_ne (by decide)
  have key : ∀ (d i fu : Nat), i + d = 4 → d < fu → f_X9_plays_128 fu (wV M (cqV (paV V n c m sp s) n f i)) (nI c) (nI m) sp (nI s) f5 i6 i7 (nI (420 + 9 * n)) (nI i) = some (nI n, wV M (passV V n c m sp s f)) := by
    intro d
    induction d with
    | zero =>
      intro i fu e1 e2
      obtain ⟨g, rfl⟩ : ∃ g, fu = g + 1 := ⟨fu - 1, by omega⟩
      have : i = 4 := by omega
      subst this
      have eV : ∀ j, (j < 420 ∨ 636 ≤ j) → cqV (paV V n c m sp s) n f 4 j = V j := fun j hj => by
        rw [cqV_ne (fun t ht => by omega)]; unfold paV; simp (disch := omega) only [upd_ne]
      have y1 : cqV (paV V n c m sp s) n f 4 (24 + 5 * c + 1) = V (24 + 5 * c + 1) := eV _ (by omega)
      have y4 : cqV (paV V n c m sp s) n f 4 (24 + 5 * c + 4) = V (24 + 5 * c + 4) := eV _ (by omega)
      have z4 : cqV (paV V n c m sp s) n f 4 (64 + 5 * m + 4) = V (64 + 5 * m + 4) := eV _ (by omega)
      have x4 : cqV (paV V n c m sp s) n f 4 4 = nI n := (eV _ (by omega)).trans v4
      have tmE : tmV (upd (cqV (paV V n c m sp s) n f 4) (24 + 5 * c + 4) (V (24 + 5 * c + 4) - plV V c sp)) c sp = tmV V c sp := by
        unfold tmV
        rw [upd_ne (by omega), upd_ne (by omega), eV _ (by omega), eV _ (by omega)]
      have pE : (if sp ≤ cqV (paV V n c m sp s) n f 4 (24 + 5 * c + 1) then (1 : Int32) else 2) = plV V c sp := by rw [y1]; rfl
      rw [f_X9_plays_128, if_pos (by rw [li_4, le_n (by omega) (by omega)]; exact Nat.le_refl _), im_5, ia_24, ir_4, xin_n (by omega) (by omega), xgd_n, pl9 wV_150 (by omega), xb_n, pE, xgd_n, cl_n (by omega), wV_150, y4, xw_wV, xl_n, im_5, ia_64, ir_4, xin_n (by omega) (by omega), xgd_n, tm9 wV_150 (by omega) r1, xb_n, tmE, xgd_n, cl_n (by omega), wV_150, upd_ne (show 64 + 5 * m + 4 ≠ 24 + 5 * c + 4 by omega), z4, xw_wV, xl_n]
      simp (disch := omega) only [ite_true, IM, IA, IR, IC, IN, nI_add, pk_mul, xin_n, cl_n, xgd_n, ↓xl_n, xb_n, xb2_n, xw_wV, wV_150, upd_ne, upd_eq, x4, nI_pred]
      rfl
    | succ d ih =>
      intro i fu e1 e2
      obtain ⟨g, rfl⟩ : ∃ g, fu = g + 1 := ⟨fu - 1, by omega⟩
      have p1 := ih (i + 1) g (by omega) (by omega)
      rw [f_X9_plays_128, if_neg (by rw [li_4, le_n (by omega) (by omega)]; omega), xin_n (by omega) (by omega), xgd_n, ir_5, nI_add, xin_n (by omega) (by omega), xgd_n, cl_n (by omega), cl_n (by omega), w157, hf i (by omega), xw_wV, xl_n, xl_n, ir_1]
      exact p1
  unfold f_X9_plays_56
  simp (disch := omega) only [ite_true, IM, IA, IR, IC, IN, nI_add, pk_mul, xin_n, cl_n, xgd_n, ↓xl_n, xb_n, xb2_n, xw_wV, wV_150, v4, upd_ne]
  have := key 4 0 xFU (by omega) (by unfold xFU; omega)
  exact this

