/-! the law: what is set up, the acts, the end -/
theorem I_car {V : Rw} (ho : Ok V) (hI : I42 V) {a0 a1 a2 a3 a4 : Int32} (h8 : ¬ nN V 1 = 8) (r4 : rg a4 0 99) : I42 (upd (upd (upd (upd (upd (upd V 1 (nI (nN V 1 + 1))) (24 + 5 * nN V 1 + 0) a0) (24 + 5 * nN V 1 + 1) a1) (24 + 5 * nN V 1 + 2) a2) (24 + 5 * nN V 1 + 3) a3) (24 + 5 * nN V 1 + 4) a4) ∧ nN (upd (upd (upd (upd (upd (upd V 1 (nI (nN V 1 + 1))) (24 + 5 * nN V 1 + 0) a0) (24 + 5 * nN V 1 + 1) a1) (24 + 5 * nN V 1 + 2) a2) (24 + 5 * nN V 1 + 3) a3) (24 + 5 * nN V 1 + 4) a4) 1 = nN V 1 + 1 ∧ (∀ j, j ≠ 1 → j < 24 → (upd (upd (upd (upd (upd (upd V 1 (nI (nN V 1 + 1))) (24 + 5 * nN V 1 + 0) a0) (24 + 5 * nN V 1 + 1) a1) (24 + 5 * nN V 1 + 2) a2) (24 + 5 * nN V 1 + 3) a3) (24 + 5 * nN V 1 + 4) a4) j = V j) := by
  have c1 := ok_c1 ho
  have c2 := ok_c2 ho
  have c3 := ok_c3 ho
  have c4 := ok_c4 ho
  have c6 := ok_c6 ho
  have eo : ∀ j, j ≠ 1 → (j < 24 + 5 * nN V 1 ∨ 24 + 5 * nN V 1 + 5 ≤ j) → (upd (upd (upd (upd (upd (upd V 1 (nI (nN V 1 + 1))) (24 + 5 * nN V 1 + 0) a0) (24 + 5 * nN V 1 + 1) a1) (24 + 5 * nN V 1 + 2) a2) (24 + 5 * nN V 1 + 3) a3) (24 + 5 * nN V 1 + 4) a4) j = V j := fun j g1 g2 => by simp (disch := omega) only [upd_ne]
  have e1 : (upd (upd (upd (upd (upd (upd V 1 (nI (nN V 1 + 1))) (24 + 5 * nN V 1 + 0) a0) (24 + 5 * nN V 1 + 1) a1) (24 + 5 * nN V 1 + 2) a2) (24 + 5 * nN V 1 + 3) a3) (24 + 5 * nN V 1 + 4) a4) 1 = nI (nN V 1 + 1) := by simp (disch := omega) only [upd_ne, upd_eq]
  have e4 : (upd (upd (upd (upd (upd (upd V 1 (nI (nN V 1 + 1))) (24 + 5 * nN V 1 + 0) a0) (24 + 5 * nN V 1 + 1) a1) (24 + 5 * nN V 1 + 2) a2) (24 + 5 * nN V 1 + 3) a3) (24 + 5 * nN V 1 + 4) a4) (24 + 5 * nN V 1 + 4) = a4 := upd_eq
  generalize upd (upd (upd (upd (upd (upd V 1 (nI (nN V 1 + 1))) (24 + 5 * nN V 1 + 0) a0) (24 + 5 * nN V 1 + 1) a1) (24 + 5 * nN V 1 + 2) a2) (24 + 5 * nN V 1 + 3) a3) (24 + 5 * nN V 1 + 4) a4 = V2 at eo e1 e4 ⊢
  have n1 : nN V2 1 = nN V 1 + 1 := nN_of e1 (by omega)
  have n2 : nN V2 2 = nN V 2 := nNe (eo 2 (by omega) (by omega))
  have n4 : nN V2 4 = nN V 4 := nNe (eo 4 (by omega) (by omega))
  have n6 : nN V2 6 = nN V 6 := nNe (eo 6 (by omega) (by omega))
  have e0 : V2 0 = V 0 := eo 0 (by omega) (by omega)
  refine ⟨?_, n1, fun j h1 h2 => eo j h1 (by omega)⟩
  obtain ⟨hA, hB, hC, hP, hM⟩ := hI
  unfold I42
  rw [n1, n2, n4, n6]
  refine ⟨fun q hq => ?_, IB_fr hB (fun j h1 h2 => eo j (by omega) (by omega)) n6 (fun r hr => eo _ (by omega) (by omega)), fun c hc => ?_, fun p hp => ?_, fun m hm => ?_⟩
  · have k := (okQ ho hq).2.2.2.1
    exact QI_fr (hA q hq) e0 (by omega) (fun c hc => eo _ (by omega) (by omega)) (fun c hc => eo _ (by omega) (by omega)) (fun p c hp hc => eo _ (by omega) (by omega))
  · by_cases q : c = nN V 1
    · rw [q, e4]; exact r4
    · rw [eo _ (by omega) (by omega)]; exact hC c (by omega)
  · have k := (okP ho hp).2.1
    exact PI_fr (hP p hp) (by rw [e0]; exact Int32.le_refl _) (fun c hc => eo _ (by omega) (by omega)) (fun c hc => eo _ (by omega) (by omega))
  · obtain ⟨m1, m2⟩ := hM m hm
    rw [eo _ (by omega) (by omega), lf_fr e0 (fun c i hc hi => eo _ (by omega) (by omega)) (fun p c hp hc => eo _ (by omega) (by omega)) (fun p hp => (okP ho hp).2.1)]
    exact ⟨m1, m2⟩
theorem lf_oth {V : Rw} {m : Nat} : ∀ {n : Nat}, (∀ p, p < n → ¬ V (420 + 9 * p + 1) = nI m) → lfV V m n = 28800
  | 0, _ => rfl
  | n + 1, h => by
    unfold lfV
    rw [lf_oth (fun p hp => h p (by omega)), if_neg (fun q => h n (by omega) q.1), Int32.sub_zero]
theorem I_mac {V : Rw} (ho : Ok V) (hI : I42 V) {a0 a1 a2 a3 : Int32} (h8 : ¬ nN V 2 = 4) : I42 (upd (upd (upd (upd (upd (upd V 2 (nI (nN V 2 + 1))) (64 + 5 * nN V 2 + 0) a0) (64 + 5 * nN V 2 + 1) a1) (64 + 5 * nN V 2 + 2) a2) (64 + 5 * nN V 2 + 3) a3) (64 + 5 * nN V 2 + 4) 28800) ∧ nN (upd (upd (upd (upd (upd (upd V 2 (nI (nN V 2 + 1))) (64 + 5 * nN V 2 + 0) a0) (64 + 5 * nN V 2 + 1) a1) (64 + 5 * nN V 2 + 2) a2) (64 + 5 * nN V 2 + 3) a3) (64 + 5 * nN V 2 + 4) 28800) 2 = nN V 2 + 1 ∧ (∀ j, j ≠ 2 → j < 24 → (upd (upd (upd (upd (upd (upd V 2 (nI (nN V 2 + 1))) (64 + 5 * nN V 2 + 0) a0) (64 + 5 * nN V 2 + 1) a1) (64 + 5 * nN V 2 + 2) a2) (64 + 5 * nN V 2 + 3) a3) (64 + 5 * nN V 2 + 4) 28800) j = V j) := by
  have c1 := ok_c1 ho
  have c2 := ok_c2 ho
  have c3 := ok_c3 ho
  have c4 := ok_c4 ho
  have c6 := ok_c6 ho
  have eo : ∀ j, j ≠ 2 → (j < 64 + 5 * nN V 2 ∨ 64 + 5 * nN V 2 + 5 ≤ j) → (upd (upd (upd (upd (upd (upd V 2 (nI (nN V 2 + 1))) (64 + 5 * nN V 2 + 0) a0) (64 + 5 * nN V 2 + 1) a1) (64 + 5 * nN V 2 + 2) a2) (64 + 5 * nN V 2 + 3) a3) (64 + 5 * nN V 2 + 4) 28800) j = V j := fun j g1 g2 => by simp (disch := omega) only [upd_ne]
  have e1 : (upd (upd (upd (upd (upd (upd V 2 (nI (nN V 2 + 1))) (64 + 5 * nN V 2 + 0) a0) (64 + 5 * nN V 2 + 1) a1) (64 + 5 * nN V 2 + 2) a2) (64 + 5 * nN V 2 + 3) a3) (64 + 5 * nN V 2 + 4) 28800) 2 = nI (nN V 2 + 1) := by simp (disch := omega) only [upd_ne, upd_eq]
  have e4 : (upd (upd (upd (upd (upd (upd V 2 (nI (nN V 2 + 1))) (64 + 5 * nN V 2 + 0) a0) (64 + 5 * nN V 2 + 1) a1) (64 + 5 * nN V 2 + 2) a2) (64 + 5 * nN V 2 + 3) a3) (64 + 5 * nN V 2 + 4) 28800) (64 + 5 * nN V 2 + 4) = 28800 := upd_eq
  generalize upd (upd (upd (upd (upd (upd V 2 (nI (nN V 2 + 1))) (64 + 5 * nN V 2 + 0) a0) (64 + 5 * nN V 2 + 1) a1) (64 + 5 * nN V 2 + 2) a2) (64 + 5 * nN V 2 + 3) a3) (64 + 5 * nN V 2 + 4) 28800 = V2 at eo e1 e4 ⊢
  have n1 : nN V2 1 = nN V 1 := nNe (eo 1 (by omega) (by omega))
  have n2 : nN V2 2 = nN V 2 + 1 := nN_of e1 (by omega)
  have n4 : nN V2 4 = nN V 4 := nNe (eo 4 (by omega) (by omega))
  have n6 : nN V2 6 = nN V 6 := nNe (eo 6 (by omega) (by omega))
  have e0 : V2 0 = V 0 := eo 0 (by omega) (by omega)
  refine ⟨?_, n2, fun j h1 h2 => eo j h1 (by omega)⟩
  obtain ⟨hA, hB, hC, hP, hM⟩ := hI
  unfold I42
  rw [n1, n2, n4, n6]
  refine ⟨fun q hq => ?_, IB_fr hB (fun j h1 h2 => eo j (by omega) (by omega)) n6 (fun r hr => eo _ (by omega) (by omega)), fun c hc => by rw [eo _ (by omega) (by omega)]; exact hC c hc, fun p hp => ?_, fun m hm => ?_⟩
  · have k := (okQ ho hq).2.2.2.1
    exact QI_fr (hA q hq) e0 (by omega) (fun c hc => eo _ (by omega) (by omega)) (fun c hc => eo _ (by omega) (by omega)) (fun p c hp hc => eo _ (by omega) (by omega))
  · have k := (okP ho hp).2.1
    exact PI_fr (hP p hp) (by rw [e0]; exact Int32.le_refl _) (fun c hc => eo _ (by omega) (by omega)) (fun c hc => eo _ (by omega) (by omega))
  · have lo : ∀ m, lfV V2 m (nN V 4) = lfV V m (nN V 4) := fun m => lf_fr e0 (fun c i hc hi => eo _ (by omega) (by omega)) (fun p c hp hc => eo _ (by omega) (by omega)) (fun p hp => (okP ho hp).2.1)
    rw [lo]
    by_cases q : m = nN V 2
    · rw [q, e4, lf_oth (fun p hp => ?_)]
      · exact ⟨⟨by decide, by decide⟩, rfl⟩
      · have k := okP ho hp
        have k2 := k.2.2.2.1
        rw [k.2.2.1, eq_n (by omega) (by omega)]
        omega
    · obtain ⟨m1, m2⟩ := hM m (by omega)
      rw [eo _ (by omega) (by omega)]
      exact ⟨m1, m2⟩
theorem I_0 : I42 V0 := by
  have n0 : ∀ j, nN V0 j = 0 := fun j => rfl
  unfold I42
  rw [n0, n0, n0, n0]
  exact ⟨fun r hr => by omega, ⟨rfl, rfl⟩, fun r hr => by omega, fun r hr => by omega, fun r hr => by omega⟩
theorem cell_e {ξ : xX} (hL : ξ.1 ≤ 260) {k : Nat} (hk : k < 1000) : ∃ z, z < 2147483648 ∧ f_L_cell ξ (nI k) = some (nI z) := by
  have a : ∀ x : Int32, x &&& 2147483647 = nI (x.toBitVec.toNat % 2 ^ 31) := fun x => pk_and x 31 (by decide)
  have b : ∀ x : Int32, x.toBitVec.toNat % 2 ^ 31 < 2147483648 := fun x => Nat.mod_lt _ (by decide)
  unfold f_L_cell f_L_cell_20
  by_cases q : Int32.ofNat ξ.1 ≤ nI k
  · rw [if_pos q, a]
    exact ⟨_, b _, rfl⟩
  · have q2 : k < ξ.1 := by
      have : ¬ nI ξ.1 ≤ nI k := q
      rw [le_n (by omega) (by omega)] at this
      omega
    rw [if_neg q, xin_n q2 (by omega), xgd_n, a]
    exact ⟨_, b _, rfl⟩
def spL (k j : Nat) : Int32 := (f_L_speed (nI k) (nI j)).getD 0
theorem spL_e : ∀ k j : Fin 3, f_L_speed (nI k.val) (nI j.val) = some (spL k.val j.val) ∧ ¬ plc k.val (spL k.val j.val) < 0 := by decide +kernel
theorem ly_e {k : Nat} (hk : k < 3) {w : Nat} (hw : w < 2147483648) : ∃ l vl, f_L_layout (nI k) (nI w) = some l ∧ f_X2_hasLayout (nI k) l = some vl ∧ ¬ vl = 0 := by
  have key : ∃ j, j < 4 ∧ lyK k j = true ∧ f_L_layout (nI k) (nI w) = some (nI j) := by
    unfold f_L_layout
    by_cases q : k = 1
    · refine ⟨w % 3, by omega, ?_, ?_⟩
      · unfold lyK
        rw [if_pos q]
        exact decide_eq_true (by omega)
      · rw [if_pos (by rw [q]; rfl)]
        congr 1
        exact pk_rem hw (by decide) (by decide)
    · refine ⟨w % 2 * 2 + 1, by omega, ?_, ?_⟩
      · unfold lyK
        rw [if_neg q]
        exact decide_eq_true (by omega)
      · rw [if_neg (by show ¬ nI k = nI 1; rw [eq_n (by omega) (by omega)]; exact q)]
        congr 1
        show (nI w - nI w / nI 2 * nI 2) * nI 2 + nI 1 = _
        rw [pk_rem hw (by decide) (by decide), pk_mul, nI_add]
  obtain ⟨j, j1, j2, j3⟩ := key
  refine ⟨nI j, _, j3, hl_fin ⟨k, hk⟩ ⟨j, j1⟩, ?_⟩
  rw [bI_0]
  exact fun z => z j2
theorem shr_k {x k : Nat} (hx : x < 2147483648) (hk : k < 4) : (nI x : Int32) >>> ((nI k : Int32) &&& 31) = nI (x / 2 ^ k) := by
  refine pk_shrN hx _ k ?_
  rcases (show k = 0 ∨ k = 1 ∨ k = 2 ∨ k = 3 by omega) with rfl | rfl | rfl | rfl <;> decide
/-- the state while things are set up: k carriers -/
def Se (V : Rw) (M : xM) (T : List Rw) (k : Nat) : Prop := Rk V M T none ∧ I42 V ∧ nN V 1 = k ∧ nN V 2 = min k 2 ∧ V 0 = nI 0
theorem setup_ok {ξ : xX} (hL : ξ.1 ≤ 260) {x : Nat} (hx : x < 2147483648) (G : Option (Int32 × xM) → Prop) (hG : ∀ V M T i3, Se V M T 4 → i3 = 1 → G (f_L_law_199 ξ M (nI x) i3 4)) : ∀ (d k fu : Nat) (V : Rw) (M : xM) (T : List Rw), k + d = 4 → d < fu → Se V M T k → G (f_L_law_42 ξ fu M (nI x) 1 (nI k)) := by
  have one : ¬ (1 : Int32) = 0 := by decide
  intro d
  induction d with
  | zero =>
    intro k fu V M T e1 e2 hS
    obtain ⟨g, rfl⟩ : ∃ g, fu = g + 1 := ⟨fu - 1, by omega⟩
    have : k = 4 := by omega
    subst this
    rw [f_L_law_42, if_pos (by decide)]
    exact hG V M T 1 hS rfl
  | succ d ih =>
    intro k fu V M T e1 e2 hS
    obtain ⟨g, rfl⟩ : ∃ g, fu = g + 1 := ⟨fu - 1, by omega⟩
    have hk : k < 4 := by omega
    obtain ⟨hR, hI, n1, n2, h0⟩ := hS
    have ho := v_ok hR.1
    obtain ⟨z, hz, ez⟩ := cell_e hL (k := 1 + k) (by omega)
    have ez' : f_L_cell ξ (1 + nI k) = some (nI z) := by
      rw [show (1 : Int32) + nI k = nI (1 + k) from nI_add 1 k]
      exact ez
    have kd : x / 2 ^ k < 2147483648 := Nat.lt_of_le_of_lt (Nat.div_le_self _ _) hx
    have k3 : x / 2 ^ k % 3 < 3 := Nat.mod_lt _ (by decide)
    have ekd : nI (x / 2 ^ k) - nI (x / 2 ^ k) / 3 * 3 = nI (x / 2 ^ k % 3) := pk_rem (d := 3) kd (by decide) (by decide)
    generalize hkk : x / 2 ^ k % 3 = kk at k3 ekd
    have ej : nI z - nI z / 3 * 3 = nI (z % 3) := pk_rem (d := 3) hz (by decide) (by decide)
    obtain ⟨sp1, sp2⟩ := spL_e ⟨kk, k3⟩ ⟨z % 3, Nat.mod_lt _ (by decide)⟩
    simp only at sp1 sp2
    have s2 : (nI z : Int32) >>> ((2 : Int32) &&& 31) = nI (z / 4) := pk_shrN hz _ 2 (by decide)
    have s5 : (nI z : Int32) >>> ((5 : Int32) &&& 31) = nI (z / 32) := pk_shrN hz _ 5 (by decide)
    have s17 : (nI z : Int32) >>> ((17 : Int32) &&& 31) = nI (z / 131072) := pk_shrN hz _ 17 (by decide)
    have s4 : (nI z : Int32) >>> ((4 : Int32) &&& 31) = nI (z / 16) := pk_shrN hz _ 4 (by decide)
    have s8 : (nI z : Int32) >>> ((8 : Int32) &&& 31) = nI (z / 256) := pk_shrN hz _ 8 (by decide)
    have s12 : (nI z : Int32) >>> ((12 : Int32) &&& 31) = nI (z / 4096) := pk_shrN hz _ 12 (by decide)
    obtain ⟨ly, vl, l1, l2, l3⟩ := ly_e k3 (show z / 4 < 2147483648 by omega)
    have e5 : (100 : Int32) + (nI (z / 32) - nI (z / 32) / 3500 * 3500) = nI (100 + z / 32 % 3500) := by
      show nI 100 + (nI (z / 32) - nI (z / 32) / nI 3500 * nI 3500) = _
      rw [pk_rem (by omega) (by decide) (by decide), nI_add]
    have e17 : (2 : Int32) + (nI (z / 131072) - nI (z / 131072) / 9 * 9) = nI (2 + z / 131072 % 9) := by
      show nI 2 + (nI (z / 131072) - nI (z / 131072) / nI 9 * nI 9) = _
      rw [pk_rem (by omega) (by decide) (by decide), nI_add]
    have p4 : (1 : Int32) ≤ nI (100 + z / 32 % 3500) ∧ nI (100 + z / 32 % 3500) ≤ 3600 := ⟨by show nI 1 ≤ _; rw [le_n (by omega) (by omega)]; omega, by show _ ≤ nI 3600; rw [le_n (by omega) (by omega)]; omega⟩
    have p5 : (1 : Int32) ≤ nI (2 + z / 131072 % 9) ∧ nI (2 + z / 131072 % 9) ≤ 99 := ⟨by show nI 1 ≤ _; rw [le_n (by omega) (by omega)]; omega, by show _ ≤ nI 99; rw [le_n (by omega) (by omega)]; omega⟩
    have r5 : rg (nI (2 + z / 131072 % 9)) 0 99 := by
      have := rg_of p5
      exact rg_up this (by decide) (by decide)
    obtain ⟨M1, a1, a2⟩ := cl_addCarrier hR k3 l2 l3 sp2 p4 p5 (by omega)
    obtain ⟨b1, b2, b3⟩ := I_car ho hI (a0 := nI kk) (a1 := spL kk (z % 3)) (a2 := ly) (a3 := nI (100 + z / 32 % 3500)) (by omega) r5
    rw [n1] at a1
    generalize (upd (upd (upd (upd (upd (upd V 1 (nI (nN V 1 + 1))) (24 + 5 * nN V 1 + 0) (nI kk)) (24 + 5 * nN V 1 + 1) (spL kk (z % 3))) (24 + 5 * nN V 1 + 2) ly) (24 + 5 * nN V 1 + 3) (nI (100 + z / 32 % 3500))) (24 + 5 * nN V 1 + 4) (nI (2 + z / 131072 % 9))) = V2 at a2 b1 b2 b3
    have m2 : nN V2 2 = min k 2 := (nNe (b3 2 (by decide) (by decide))).trans n2
    have z2 : V2 0 = nI 0 := (b3 0 (by decide) (by decide)).trans h0
    rw [f_L_law_42, if_neg (by show ¬ nI 4 ≤ nI k; rw [le_n (by omega) (by omega)]; omega), if_neg one, ez', xb_n, xl_n, shr_k hx hk, ekd, xl_n, ej, sp1, xb_n, s2, l1, xb_n, s5, e5, s17, e17, a1, xb2_n, if_pos rfl]
    unfold f_L_law_125
    rw [xl_n, if_neg one]
    by_cases q : 1 < k
    · rw [if_pos (by show nI 1 < nI k; rw [lt_n (by omega) (by omega)]; exact q)]
      unfold f_L_law_187 f_L_law_192
      rw [xl_n, xl_n, nI_1]
      exact ih (k + 1) g V2 M1 _ (by omega) (by omega) ⟨a2, b1, by omega, by omega, z2⟩
    · rw [if_neg (by show ¬ nI 1 < nI k; rw [lt_n (by omega) (by omega)]; exact q)]
      have k2 : nN V2 2 = k := by omega
      obtain ⟨ly', vl', l1', l2', l3'⟩ := ly_e k3 (show z / 256 < 2147483648 by omega)
      have e12 : (10 : Int32) + (nI (z / 4096) - nI (z / 4096) / 91 * 91) = nI (10 + z / 4096 % 91) := by
        show nI 10 + (nI (z / 4096) - nI (z / 4096) / nI 91 * nI 91) = _
        rw [pk_rem (by omega) (by decide) (by decide), nI_add]
      have p12 : (1 : Int32) ≤ nI (10 + z / 4096 % 91) ∧ nI (10 + z / 4096 % 91) ≤ 100 := ⟨by show nI 1 ≤ _; rw [le_n (by omega) (by omega)]; omega, by show _ ≤ nI 100; rw [le_n (by omega) (by omega)]; omega⟩
      have mac : ∀ sps : Int32, (1 ≤ sps ∧ sps ≤ (if nI kk = 2 then (1 : Int32) else 7)) → G (f_L_law_158 ξ (f_L_law_42 ξ g) M1 (nI x) 1 (nI k) (nI z) (nI kk) (nI kk) sps) := fun sps hsps => by
        obtain ⟨M3, c1, c2⟩ := cl_addMachine a2 k3 l2' l3' rfl hsps p12 (by omega)
        obtain ⟨d1, d2, d3⟩ := I_mac (v_ok a2.1) b1 (a0 := nI kk) (a1 := sps) (a2 := ly') (a3 := nI (10 + z / 4096 % 91)) (by omega)
        rw [k2] at c1
        generalize (upd (upd (upd (upd (upd (upd V2 2 (nI (nN V2 2 + 1))) (64 + 5 * nN V2 2 + 0) (nI kk)) (64 + 5 * nN V2 2 + 1) sps) (64 + 5 * nN V2 2 + 2) ly') (64 + 5 * nN V2 2 + 3) (nI (10 + z / 4096 % 91))) (64 + 5 * nN V2 2 + 4) 28800) = V3 at c2 d1 d2 d3
        unfold f_L_law_158
        rw [s8, l1', xb_n, s12, e12, c1, xb2_n, if_pos rfl]
        unfold f_L_law_187 f_L_law_192
        rw [xl_n, xl_n, nI_1]
        exact ih (k + 1) g V3 M3 _ (by omega) (by omega) ⟨c2, d1, (nNe (d3 1 (by decide) (by decide))).trans (by omega), by omega, (d3 0 (by decide) (by decide)).trans z2⟩
      by_cases w : nI kk = 2
      · rw [if_pos w]
        exact mac 1 ⟨by decide, by rw [if_pos w]; decide⟩
      · have e4 : (1 : Int32) + (nI (z / 16) - nI (z / 16) / 7 * 7) = nI (1 + z / 16 % 7) := by
          show nI 1 + (nI (z / 16) - nI (z / 16) / nI 7 * nI 7) = _
          rw [pk_rem (by omega) (by decide) (by decide), nI_add]
        rw [if_neg w, s4, e4]
        exact mac _ ⟨by show nI 1 ≤ _; rw [le_n (by omega) (by omega)]; omega, by rw [if_neg w]; show _ ≤ nI 7; rw [le_n (by omega) (by omega)]; omega⟩
/-- the end: a slot, days, and back -/
theorem end_ok {ξ : xX} {V : Rw} {M : xM} {T : List Rw} (hR : Rk V M T none) (hI : I42 V) {d : Nat} (hd : V 0 = nI d) (h9 : d + 40 ≤ 9999) (i2 i4 : Int32) : ∃ M', f_L_law_261 ξ M i2 1 i4 = some (1, M') := by
  have hv := hR.1
  have one : ¬ (1 : Int32) = 0 := by decide
  obtain ⟨M1, s1, s2⟩ := cl_save hR
  obtain ⟨M2, v, d1, d2, d3, d4, d5⟩ := days_ok s2 hI hd (k := 40) (by decide) (by decide) h9
  obtain ⟨M3, r1, r2⟩ := cl_restore d3
  have d1' : f_X8_passDays M1 40 = some (v, M2) := d1
  have ps : psh (dayV V (nI 40)) (psh V T) = dayV V (nI 40) :: V :: (T.take 4).take 3 := rfl
  rw [ps] at r2
  obtain ⟨M4, u1, u2, u3⟩ := cl_undo r2
  obtain ⟨M5, w1, w2, w3⟩ := cl_undo u3
  have hv3 := r2.1
  have hv5 := w3.1
  unfold f_L_law_261
  rw [t_0 hv, xb_n, xl_n, t_4 hv, xb_n, xl_n, t_7 hv hR.2.1, xb_n, xl_n, if_neg one, s1, xb2_n, if_pos rfl, d1', xb2_n, if_neg d2, r1, xb2_n, if_pos rfl, t_4 hv3, xb_n, if_pos rfl, t_7 hv3 hR.2.1, xb_n, if_pos rfl, ck_requests hv3 hR.2.1 hI, xb_n, if_neg one, ck_passes hv3 hI, xb_n, if_neg one]
  unfold f_L_law_356
  rw [xl_n, if_neg one, u1, xb2_n, if_neg (nI_pos (by omega)), t_0 u3.1, xb_n, if_pos (by rw [d5, hd]; show _ = nI d + nI 40; rw [nI_add]), w1, xb2_n, if_neg (nI_pos (by omega)), t_0 hv5, xb_n, if_pos rfl, t_7 hv5 hR.2.1, xb_n, if_pos rfl]
  exact ⟨M5, rfl⟩
theorem loop_ok {ξ : xX} (hL : ξ.1 ≤ 260) (i2 : Int32) : ∀ (e k fu : Nat) (V : Rw) (M : xM) (T : List Rw) (d : Nat), k + e = 36 → e < fu → Rk V M T none → I42 V → nN V 1 = 4 → nN V 2 = 2 → V 0 = nI d → d ≤ 12 * k → ∃ M', f_L_law_202 ξ fu M i2 1 (nI k) = some (1, M') := by
  have one : ¬ (1 : Int32) = 0 := by decide
  intro e
  induction e with
  | zero =>
    intro k fu V M T d e1 e2 hR hI n1 n2 hd h12
    obtain ⟨g, rfl⟩ : ∃ g, fu = g + 1 := ⟨fu - 1, by omega⟩
    have : k = 36 := by omega
    subst this
    rw [f_L_law_202, if_pos (by decide)]
    exact end_ok hR hI hd (by omega) _ _
  | succ e ih =>
    intro k fu V M T d e1 e2 hR hI n1 n2 hd h12
    obtain ⟨g, rfl⟩ : ∃ g, fu = g + 1 := ⟨fu - 1, by omega⟩
    obtain ⟨z, hz, ez⟩ := cell_e hL (k := 5 + k) (by omega)
    have ez' : f_L_cell ξ (5 + nI k) = some (nI z) := by
      rw [show (5 : Int32) + nI k = nI (5 + k) from nI_add 5 k]
      exact ez
    obtain ⟨M1, V2, T2, d2, a1, a2, a3, a4, a5, a6, a7⟩ := acts_ok hR hI hd (by omega) (by omega) (by omega) hz
    rw [f_L_law_202, if_neg (by show ¬ nI 36 ≤ nI k; rw [le_n (by omega) (by omega)]; omega), if_neg one, ez', xb_n, a1, xb2_n, if_neg one, ck_requests a2.1 a2.2.1 a3, xb_n, if_neg one, ck_passes a2.1 a3, xb_n, if_neg one, ck_best a2.1 a3, xb_n, if_neg one]
    unfold f_L_law_254
    rw [xl_n, xl_n, nI_1]
    exact ih (k + 1) g V2 M1 T2 d2 (by omega) (by omega) a2 a3 ((nNe a4).trans n1) ((nNe a5).trans n2) a7 (by omega)
theorem law_ok (ξ : xX) (hL : ξ.1 ≤ 260) : ∃ M' : xM, f_L_law ξ (mOf cL_80) = some (1, M') := by
  obtain ⟨hR, h105⟩ := Rk_0
  obtain ⟨x, hx, ex⟩ := cell_e hL (k := 0) (by decide)
  have ex' : f_L_cell ξ 0 = some (nI x) := ex
  unfold f_L_law
  rw [ex', xb_n, xl_n, cl_undo0 hR, xb2_n, if_pos rfl, cl_rest0 h105, xb2_n, if_pos rfl]
  unfold f_L_law_38
  rw [xl_n, xl_n]
  refine setup_ok hL hx (fun o => ∃ M', o = some (1, M')) (fun V M T i3 hS hi => ?_) 4 0 xFU V0 (mOf cL_80) [] (by omega) (by unfold xFU; omega) ⟨hR, I_0, rfl, rfl, rfl⟩
  subst hi
  obtain ⟨g1, g2, g3, g4, g5⟩ := hS
  unfold f_L_law_199
  rw [xl_n]
  exact loop_ok hL _ 36 0 xFU V M T 0 (by omega) (by unfold xFU; omega) g1 g2 g3 g4 g5 (by omega)
