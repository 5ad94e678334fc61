/-! the class's table of the fewest -/
theorem sb_fin : ∀ a : Fin 16, ∀ b : Fin 16, ((nI a.val &&& (nI b.val ^^^ (-1))) = 0) = (sbM a.val b.val = true) := fun a b => propext (by revert a b; decide +kernel)
theorem sh_fin : ∀ i : Fin 16, ((1 : Int32) <<< ((nI i.val : Int32) &&& 31)) = nI (2 ^ i.val) := by decide +kernel
theorem rs_fin : ∀ a : Fin 64, ∀ b : Fin 64, (nI a.val &&& (nI b.val ^^^ (-1))) = nI (rsM a.val b.val) := by decide +kernel
theorem tp_fin : ∀ i : Fin 7, xmn ((1 : Int32) <<< ((nI i.val : Int32) &&& 31)) 64 = nI (2 ^ i.val) ∧ 2 ^ i.val ≤ 64 ∧ 0 < 2 ^ i.val := by decide +kernel
def NdS (M : xM) (nc : Nat) (N : Nat → Nat) : Prop := M 144 3 = nI nc ∧ ∀ i, i < nc → M 145 i = nI (N i)
def OfS (M : xM) (oc : Nat) (O : Nat → Nat) : Prop := M 144 4 = nI oc ∧ ∀ i, i < oc → M 146 i = nI (O i)
theorem an8 {M : xM} {nc m : Nat} {N : Nat → Nat} (h : NdS M nc N) (hnc : nc ≤ 6) (hN : ∀ i, i < nc → N i < 16) (hm : m < 16) (hlt : aN (fun i => decide (N i = m)) nc = false → nc < 6) : f_X0_addNeed M (nI m) = if aN (fun i => decide (N i = m)) nc = true then some M else some (xw (xw M 145 nc (nI m)) 144 3 (nI (nc + 1))) := by
  have key : ∀ (d i fu : Nat), i + d = nc → d < fu → aN (fun i => decide (N i = m)) i = false → f_X0_addNeed_2 fu M (nI m) (nI i) = if aN (fun i => decide (N i = m)) nc = true then some M else some (xw (xw M 145 nc (nI m)) 144 3 (nI (nc + 1))) := by
    intro d
    induction d with
    | zero =>
      intro i fu e1 e2 e3
      obtain ⟨g, rfl⟩ : ∃ g, fu = g + 1 := ⟨fu - 1, by omega⟩
      have : i = nc := by omega
      subst this
      have l6 := hlt e3
      rw [f_X0_addNeed_2, h.1, if_pos (by rw [le_n (by omega) (by omega)]; exact Nat.le_refl _), if_neg (by rw [e3]; decide)]
      unfold f_X0_addNeed_36
      rw [h.1, if_neg (nI_pos (by omega)), if_neg (by rw [li_6, le_n (by omega) (by omega)]; omega), xin_n (by omega) (by omega), xgd_n, xl_n, xl_n, cl_n (by omega), xw_ne (show 144 ≠ 145 by decide), h.1, ir_1]
    | succ d ih =>
      intro i fu e1 e2 e3
      obtain ⟨g, rfl⟩ : ∃ g, fu = g + 1 := ⟨fu - 1, by omega⟩
      have hs : aN (fun i => decide (N i = m)) (i + 1) = (aN (fun i => decide (N i = m)) i || decide (N i = m)) := rfl
      have n16 := hN i (by omega)
      rw [f_X0_addNeed_2, h.1, if_neg (by rw [le_n (by omega) (by omega)]; omega), if_neg (by rw [li_6, le_n (by omega) (by omega)]; omega), xin_n (by omega) (by omega), xgd_n, cl_n (by omega), h.2 i (by omega)]
      by_cases q : N i = m
      · have : aN (fun i => decide (N i = m)) nc = true := aN_up (i := i + 1) (by rw [hs, decide_eq_true q, Bool.or_true]) (by omega)
        rw [if_pos (by rw [q]), if_pos this]
      · rw [if_neg (by rw [eq_n (by omega) (by omega)]; exact q), xl_n, ir_1]
        exact ih (i + 1) g (by omega) (by omega) (by rw [hs, e3, decide_eq_false q]; rfl)
  unfold f_X0_addNeed
  rw [xl_n]
  exact key nc 0 xFU (by omega) (by unfold xFU; omega) rfl
theorem ao8 {M : xM} {nc oc h : Nat} {N O : Nat → Nat} (hn : NdS M nc N) (ho : OfS M oc O) (hnc : nc ≤ 6) (hN : ∀ i, i < nc → N i < 16) (hoc : oc < 24) (hO : ∀ i, i < oc → O i < 64) (hh : h < 16) : f_X0_addOffer M (nI h) = if aN (fun i => decide (O i = svM N nc h)) oc = true then some M else if svM N nc h = 0 then some M else some (xw (xw M 146 oc (nI (svM N nc h))) 144 4 (nI (oc + 1))) := by
  have s64 : svM N nc h < 64 := by
    have a : svM N nc h < 2 ^ nc := mk_lt nc
    have b := (tp_fin ⟨nc, by omega⟩).2.1
    exact Nat.lt_of_lt_of_le a b
  have k2 : ∀ (d i fu : Nat), i + d = oc → d < fu → aN (fun i => decide (O i = svM N nc h)) i = false → f_X0_addOffer_48 fu M (nI h) (nI (svM N nc h)) (nI i) = if aN (fun i => decide (O i = svM N nc h)) oc = true then some M else if svM N nc h = 0 then some M else some (xw (xw M 146 oc (nI (svM N nc h))) 144 4 (nI (oc + 1))) := by
    intro d
    induction d with
    | zero =>
      intro i fu e1 e2 e3
      obtain ⟨g, rfl⟩ : ∃ g, fu = g + 1 := ⟨fu - 1, by omega⟩
      have : i = oc := by omega
      subst this
      rw [f_X0_addOffer_48, ho.1, if_pos (by rw [le_n (by omega) (by omega)]; exact Nat.le_refl _), if_neg (by rw [e3]; decide)]
      unfold f_X0_addOffer_82
      by_cases q : svM N nc h = 0
      · rw [if_pos (by rw [q]; rfl), if_pos q]
      · rw [if_neg (by rw [li_0, eq_n (by omega) (by omega)]; exact q), if_neg q, ho.1, if_neg (nI_pos (by omega)), if_neg (by rw [li_24, le_n (by omega) (by omega)]; omega), xin_n (by omega) (by omega), xgd_n, xl_n, xl_n, cl_n (by omega), xw_ne (show 144 ≠ 146 by decide), ho.1, ir_1]
    | succ d ih =>
      intro i fu e1 e2 e3
      obtain ⟨g, rfl⟩ : ∃ g, fu = g + 1 := ⟨fu - 1, by omega⟩
      have hs : aN (fun i => decide (O i = svM N nc h)) (i + 1) = (aN (fun i => decide (O i = svM N nc h)) i || decide (O i = svM N nc h)) := rfl
      have n16 := hO i (by omega)
      rw [f_X0_addOffer_48, ho.1, if_neg (by rw [le_n (by omega) (by omega)]; omega), if_neg (by rw [li_24, le_n (by omega) (by omega)]; omega), xin_n (by omega) (by omega), xgd_n, cl_n (by omega), ho.2 i (by omega)]
      by_cases q : O i = svM N nc h
      · have : aN (fun i => decide (O i = svM N nc h)) oc = true := aN_up (i := i + 1) (by rw [hs, decide_eq_true q, Bool.or_true]) (by omega)
        rw [if_pos (by rw [q]), if_pos this]
      · rw [if_neg (by rw [eq_n (by omega) (by omega)]; exact q), xl_n, ir_1]
        exact ih (i + 1) g (by omega) (by omega) (by rw [hs, e3, decide_eq_false q]; rfl)
  have k1 : ∀ (d i fu : Nat), i + d = nc → d < fu → f_X0_addOffer_4 fu M (nI h) (nI (svM N i h)) (nI i) = f_X0_addOffer_46 M (nI h) (nI (svM N nc h)) (nI nc) := by
    intro d
    induction d with
    | zero =>
      intro i fu e1 e2
      obtain ⟨g, rfl⟩ : ∃ g, fu = g + 1 := ⟨fu - 1, by omega⟩
      have : i = nc := by omega
      subst this
      rw [f_X0_addOffer_4, hn.1, if_pos (by rw [le_n (by omega) (by omega)]; exact Nat.le_refl _)]
    | succ d ih =>
      intro i fu e1 e2
      obtain ⟨g, rfl⟩ : ∃ g, fu = g + 1 := ⟨fu - 1, by omega⟩
      have p1 := ih (i + 1) g (by omega) (by omega)
      have hs : svM N (i + 1) h = if sbM (N i) h = true then svM N i h ||| 2 ^ i else svM N i h := rfl
      rw [hs] at p1
      have n16 := hN i (by omega)
      have sf := sb_fin ⟨N i, n16⟩ ⟨h, hh⟩
      rw [f_X0_addOffer_4, hn.1, if_neg (by rw [le_n (by omega) (by omega)]; omega), if_neg (by rw [li_6, le_n (by omega) (by omega)]; omega), xin_n (by omega) (by omega), xgd_n, cl_n (by omega), hn.2 i (by omega)]
      unfold f_X0_addOffer_40
      simp only [sf]
      by_cases q : sbM (N i) h = true
      · rw [if_pos q] at p1 ⊢
        rw [sh_fin ⟨i, by omega⟩, i32_or, xl_n, xl_n, ir_1]
        exact p1
      · rw [if_neg q] at p1 ⊢
        rw [xl_n, ir_1]
        exact p1
  unfold f_X0_addOffer
  rw [xl_n, xl_n]
  refine Eq.trans (k1 nc 0 xFU (by omega) (by unfold xFU; omega)) ?_
  unfold f_X0_addOffer_46
  rw [xl_n]
  exact k2 oc 0 xFU (by omega) (by unfold xFU; omega) rfl
theorem no6 {k : Nat} (hk : k < 100000) : ¬ nI k = -6 := fun w => nI_pos (n := k) (by omega) (by rw [w]; decide)
theorem ff_8 {M : xM} {oc S : Nat} {O : Nat → Nat} (ho : OfS M oc O) (hoc : oc ≤ 24) (hO : ∀ i, i < oc → O i < 64) (hS : S < 64) (hD : ∀ S', S' < S → M 147 S' = -6 ∨ ∃ k, k ≤ 16 ∧ M 147 S' = nI k) : ∃ b, f_X0_fewestFor M (nI S) = some b ∧ Bs (M 147) O S oc b := by
  have key : ∀ (d i fu : Nat) (b : Int32), i + d = oc → d < fu → Bs (M 147) O S i b → ∃ b2, f_X0_fewestFor_5 M fu (nI S) b (nI i) = some b2 ∧ Bs (M 147) O S oc b2 := by
    intro d
    induction d with
    | zero =>
      intro i fu b e1 e2 e3
      obtain ⟨g, rfl⟩ : ∃ g, fu = g + 1 := ⟨fu - 1, by omega⟩
      have : i = oc := by omega
      subst this
      exact ⟨b, by rw [f_X0_fewestFor_5, ho.1, if_pos (by rw [le_n (by omega) (by omega)]; exact Nat.le_refl _)], e3⟩
    | succ d ih =>
      intro i fu b e1 e2 e3
      obtain ⟨g, rfl⟩ : ∃ g, fu = g + 1 := ⟨fu - 1, by omega⟩
      have o64 := hO i (by omega)
      have rl := rs_le (S := S) (o := O i)
      have rf := rs_fin ⟨S, hS⟩ ⟨O i, o64⟩
      have st : ∀ b2 v, f_X0_fewestFor_94 M (f_X0_fewestFor_5 M g) (nI S) b2 (nI i) v = f_X0_fewestFor_5 M g (nI S) b2 (nI (i + 1)) := fun b2 v => by
        unfold f_X0_fewestFor_94
        rw [xl_n, ir_1]
      have rf' : (nI S &&& (nI (O i) ^^^ (-1)) : Int32) = nI (rsM S (O i)) := rf
      rw [f_X0_fewestFor_5, ho.1, if_neg (by rw [le_n (by omega) (by omega)]; omega), if_neg (by rw [li_24, le_n (by omega) (by omega)]; omega), xin_n (by omega) (by omega), xgd_n, xl_n, cl_n (by omega), ho.2 i (by omega), rf', if_neg (nI_pos (by omega))]
      by_cases q : rsM S (O i) < S
      case neg =>
        rw [if_pos (by rw [le_n (by omega) (by omega)]; omega), st]
        refine ih (i + 1) g b (by omega) (by omega) ?_
        rcases e3 with ⟨x1, x2⟩ | ⟨j, k, x1, x2, x3, x4, x5, x6⟩
        · exact Or.inl ⟨x1, fun j hj w => by
            by_cases z : j = i
            · rw [z] at w; exact absurd w q
            · exact x2 j (by omega) w⟩
        · exact Or.inr ⟨j, k, by omega, x2, x3, x4, x5, fun j' hj w => by
            by_cases z : j' = i
            · rw [z] at w; exact absurd w q
            · exact x6 j' (by omega) w⟩
      rw [if_neg (by rw [le_n (by omega) (by omega)]; omega), if_neg (by rw [li_64, le_n (by omega) (by omega)]; omega), xin_n (by omega) (by omega), xgd_n, cl_n (by omega), xgd_n]
      rcases hD _ q with hd | ⟨k, k16, hd⟩
      · rw [if_pos (by rw [hd]; decide), st]
        refine ih (i + 1) g b (by omega) (by omega) ?_
        rcases e3 with ⟨x1, x2⟩ | ⟨j, k, x1, x2, x3, x4, x5, x6⟩
        · exact Or.inl ⟨x1, fun j hj w => by
            by_cases z : j = i
            · rw [z]; exact hd
            · exact x2 j (by omega) w⟩
        · exact Or.inr ⟨j, k, by omega, x2, x3, x4, x5, fun j' hj w k' h1 h2 => by
            by_cases z : j' = i
            · rw [z, hd] at h2; exact absurd h2.symm (no6 (by omega))
            · exact x6 j' (by omega) w k' h1 h2⟩
      · have e84 : ∀ b2, f_X0_fewestFor_84 M (f_X0_fewestFor_5 M g) (nI S) b2 (nI i) (nI (rsM S (O i))) = f_X0_fewestFor_5 M g (nI S) (nI (k + 1)) (nI (i + 1)) := fun b2 => by
          unfold f_X0_fewestFor_84
          rw [xin_n (by omega) (by omega), xgd_n, cl_n (by omega), hd, xl_n, ir_1, st]
        rw [if_neg (by rw [hd]; exact nI_pos (by omega)), hd, ir_1, e84, st]
        rcases e3 with ⟨x1, x2⟩ | ⟨j, k0, x1, x2, x3, x4, x5, x6⟩
        · rw [if_pos x1]
          refine ih (i + 1) g _ (by omega) (by omega) (Or.inr ⟨i, k, by omega, k16, q, hd, rfl, fun j' hj w k' h1 h2 => ?_⟩)
          by_cases z : j' = i
          · rw [z, hd, eq_n (by omega) (by omega)] at h2; omega
          · rw [x2 j' (by omega) w] at h2; exact absurd h2.symm (no6 (by omega))
        · rw [if_neg (by rw [x5]; exact no6 (by omega)), x5]
          by_cases w2 : k0 ≤ k
          · rw [if_pos (by rw [le_n (by omega) (by omega)]; omega)]
            refine ih (i + 1) g _ (by omega) (by omega) (Or.inr ⟨j, k0, by omega, x2, x3, x4, rfl, fun j' hj w k' h1 h2 => ?_⟩)
            by_cases z : j' = i
            · rw [z, hd, eq_n (by omega) (by omega)] at h2; omega
            · exact x6 j' (by omega) w k' h1 h2
          · rw [if_neg (by rw [le_n (by omega) (by omega)]; omega)]
            refine ih (i + 1) g _ (by omega) (by omega) (Or.inr ⟨i, k, by omega, k16, q, hd, rfl, fun j' hj w k' h1 h2 => ?_⟩)
            by_cases z : j' = i
            · rw [z, hd, eq_n (by omega) (by omega)] at h2; omega
            · have := x6 j' (by omega) w k' h1 h2
              omega
  unfold f_X0_fewestFor
  rw [xl_n, xl_n]
  exact key oc 0 xFU (-6) (by omega) (by unfold xFU; omega) (Or.inl ⟨rfl, fun j hj => by omega⟩)
def f47 (M M1 : xM) : Prop := ∀ k, k ≠ 147 → M1 k = M k
theorem fs8 {M : xM} {nc oc : Nat} {H : Nat → Bool} {N O : Nat → Nat} (hn : NdS M nc N) (ho : OfS M oc O) (hnc : nc ≤ 6) (hoc : oc ≤ 24) (hO1 : ∀ j, j < oc → ∃ h, h < 16 ∧ H h = true ∧ O j = svM N nc h) (hO2 : ∀ h, h < 16 → H h = true → svM N nc h ≠ 0 → ∃ j, j < oc ∧ O j = svM N nc h) : ∃ v M1, f_X0_findFewest M = some (v, M1) ∧ f47 M M1 ∧ Fw H N nc (2 ^ nc - 1) v := by
  obtain ⟨t1, t2, t3⟩ := tp_fin ⟨nc, by omega⟩
  have t2' : 2 ^ nc ≤ 64 := t2
  have t3' : 0 < 2 ^ nc := t3
  have hO : ∀ i, i < oc → O i < 64 := fun i hi => by
    obtain ⟨h, _, _, e⟩ := hO1 i hi
    rw [e]
    exact Nat.lt_of_lt_of_le (mk_lt nc) t2'
  have key : ∀ (d S fu : Nat) (M1 : xM), S + d = 2 ^ nc → d < fu → f47 M M1 → (∀ S', S' < S → Fw H N nc S' (M1 147 S')) → ∃ v M2, f_X0_findFewest_17 fu M1 (nI (2 ^ nc)) (nI S) = some (v, M2) ∧ f47 M M2 ∧ Fw H N nc (2 ^ nc - 1) v := by
    intro d
    induction d with
    | zero =>
      intro S fu M1 e1 e2 e3 e4
      obtain ⟨g, rfl⟩ : ∃ g, fu = g + 1 := ⟨fu - 1, by omega⟩
      have : S = 2 ^ nc := by omega
      subst this
      refine ⟨M1 147 (2 ^ nc - 1), M1, ?_, e3, e4 _ (by omega)⟩
      obtain ⟨t, ht⟩ : ∃ t, 2 ^ nc = t + 1 := ⟨2 ^ nc - 1, by omega⟩
      rw [f_X0_findFewest_17, if_pos (by rw [le_n (by omega) (by omega)]; exact Nat.le_refl _), if_neg (by rw [li_0, le_n (by omega) (by omega)]; omega), ht, nI_pred, xin_n (by omega) (by omega), xgd_n, cl_n (by omega), Nat.add_sub_cancel]
    | succ d ih =>
      intro S fu M1 e1 e2 e3 e4
      obtain ⟨g, rfl⟩ : ∃ g, fu = g + 1 := ⟨fu - 1, by omega⟩
      have st : ∀ v, f_X0_findFewest_40 (f_X0_findFewest_17 g) M1 (nI (2 ^ nc)) (nI S) (nI S) v = f_X0_findFewest_17 g (xw M1 147 S v) (nI (2 ^ nc)) (nI (S + 1)) := fun v => by
        unfold f_X0_findFewest_40
        rw [xin_n (by omega) (by omega), xgd_n, xl_n, xl_n, cl_n (by omega), ir_1]
      have nx : ∀ v, Fw H N nc S v → ∃ v2 M2, f_X0_findFewest_17 g (xw M1 147 S v) (nI (2 ^ nc)) (nI (S + 1)) = some (v2, M2) ∧ f47 M M2 ∧ Fw H N nc (2 ^ nc - 1) v2 := fun v hv => by
        refine ih (S + 1) g _ (by omega) (by omega) (fun k hk => (xw_ne hk).trans (e3 k hk)) (fun S' hS' => ?_)
        by_cases z : S' = S
        · rw [z, xw_same]; exact hv
        · rw [xw_o (by omega)]; exact e4 S' (by omega)
      rw [f_X0_findFewest_17, if_neg (by rw [le_n (by omega) (by omega)]; omega)]
      by_cases q : S = 0
      · subst q
        rw [if_pos (show nI 0 = (0 : Int32) from rfl), st]
        exact nx 0 Fw_0
      · have ho1 : OfS M1 oc O := ⟨by rw [e3 144 (by decide)]; exact ho.1, fun i hi => by rw [e3 146 (by decide)]; exact ho.2 i hi⟩
        obtain ⟨b, b1, b2⟩ := ff_8 ho1 hoc hO (S := S) (by omega) (fun S' hS' => Fw_k (e4 S' hS'))
        rw [if_neg (by rw [li_0, eq_n (by omega) (by omega)]; exact q), b1, xb_n, st]
        exact nx b (Fw_step hO1 hO2 (by omega) (by omega) e4 b2)
  unfold f_X0_findFewest
  have t1' : xmn ((1 : Int32) <<< (((M 144 3) : Int32) &&& 31)) 64 = nI (2 ^ nc) := by rw [hn.1]; exact t1
  rw [t1', xl_n, xl_n]
  exact key (2 ^ nc) 0 xFU M (by omega) (by unfold xFU; omega) (fun _ _ => rfl) (fun S' hS' => by omega)
