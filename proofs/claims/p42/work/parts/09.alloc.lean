section XG
variable {ξ : xX} {μ μ' : xD} {pc : Nat} {ls st as rest : List Value} {sh sh' : List xS} {M : xM} {kc ks : Nat} {Q Q' : Option Value → List xS → xM → Prop} {α β : Type} {z : α}
def xb (o : Option α) (g : α → Option β) : Option β := o.bind g
def xb2 (o : Option (Int32 × xM)) (g : Int32 → xM → Option β) : Option β := o.bind (fun v => g v.1 v.2)
theorem xb_some {o : Option α} {g : α → Option β} {z : β} (h : xb o g = some z) : ∃ v, o = some v ∧ g v = some z := Option.bind_eq_some_iff.mp h
theorem xb2_some {o : Option (Int32 × xM)} {g : Int32 → xM → Option β} {z : β} (h : xb2 o g = some z) : ∃ v, o = some v ∧ g v.1 v.2 = some z := Option.bind_eq_some_iff.mp h
def xcat1 (l : List Value) : Bool := l.all (fun v => v.category == 1)
theorem xcat1_of {l : List Value} (h : xcat1 l = true) : ∀ v ∈ l, v.category = 1 := fun v hv => by
  have := List.all_eq_true.mp h v hv
  simpa using this
/-- the numbers of a call: rooms, locals, what lies below -/
def xkV (μ μ' : xD) (d : Nat) (kc ks n : Nat) (as rest : List Value) : Bool :=
  Nat.ble (μ'.2.2.2.2.1 + 1) μ.2.2.2.2.1 && Nat.ble (8 + (μ'.2.2.1 + 11) + μ'.2.2.2.2.2.1) μ.2.2.2.2.2.1 && Nat.ble (kc + μ'.2.2.2.2.2.2.1) μ.2.2.2.2.2.2.1 && Nat.ble (ks + μ'.2.2.2.2.2.2.2) μ.2.2.2.2.2.2.2 && Nat.beq as.length n && Nat.ble (rest.map fun v => v.category).sum 8 && xcat1 as && Nat.ble (as.length + d) μ'.2.2.1
theorem xkV_of {d n : Nat} (h : xkV μ μ' d kc ks n as rest = true) : xRm μ μ' ∧ (kc + μ'.2.2.2.2.2.2.1 ≤ μ.2.2.2.2.2.2.1 ∧ ks + μ'.2.2.2.2.2.2.2 ≤ μ.2.2.2.2.2.2.2) ∧ as.length = n ∧ (rest.map fun v => v.category).sum ≤ 8 ∧ (∀ v ∈ as, v.category = 1) ∧ as.length + d ≤ μ'.2.2.1 := by
  simp only [xkV, Bool.and_eq_true] at h
  obtain ⟨⟨⟨⟨⟨⟨⟨h1, h2⟩, h3⟩, h4⟩, h5⟩, h6⟩, h7⟩, h8⟩ := h
  exact ⟨⟨Nat.le_of_ble_eq_true h1, Nat.le_of_ble_eq_true h2⟩, ⟨Nat.le_of_ble_eq_true h3, Nat.le_of_ble_eq_true h4⟩, Nat.eq_of_beq_eq_true h5, Nat.le_of_ble_eq_true h6, xcat1_of h7, Nat.le_of_ble_eq_true h8⟩
def xRv (sh : List xS) (k0 : Nat) (C : String) : Prop := ∃ (ci : Nat) (fs : List (Option (Option Nat))) (q : vw_C), sh[k0]? = some (.inr (ci, fs)) ∧ vwCl[ci]? = some q ∧ q.1 = C
theorem X_vG {k0 idx n : Nat} (as rest : List Value) (hLk : xLk μ.1.cls idx μ'.1) (hMk : xMkV μ' n) (hR : xRv sh k0 μ'.1.cls) (hk : xkV μ μ' 1 kc ks n as rest = true) (hst : as.reverse ++ .ref k0 :: rest = st) (hd : decode μ.2.1 pc = .ok (.invokevirtual idx, 3)) (hX : X ξ μ' 0 (.ref k0 :: as) [] sh M 0 0 Q')
    (k : ∀ r sh' M', Q' r sh' M' → X ξ μ (pc + 3) ls (r.toList ++ rest) sh' M' (kc + μ'.2.2.2.2.2.2.1) (ks + μ'.2.2.2.2.2.2.2) Q) : X ξ μ pc ls st sh M kc ks Q := by
  obtain ⟨h1, h2, h3, h4, h5, h6⟩ := xkV_of hk
  obtain ⟨ci, fs, q, r1, r2, r3⟩ := hR
  exact X_callV as rest hLk hMk h1 h2 r1 r2 r3 h3 hst h4 (fun v hv => by
    rcases List.mem_cons.mp hv with rfl | hv
    · rfl
    · exact h5 v hv) h6 hd hX k
theorem X_sG {idx n : Nat} (as rest : List Value) (hLk : xLk μ.1.cls idx μ'.1) (hMk : xMkS μ' n) (hk : xkV μ μ' 0 kc ks n as rest = true) (hst : as.reverse ++ rest = st) (hd : decode μ.2.1 pc = .ok (.invokestatic idx, 3)) (hX : X ξ μ' 0 as [] sh M 0 0 Q')
    (k : ∀ r sh' M', Q' r sh' M' → X ξ μ (pc + 3) ls (r.toList ++ rest) sh' M' (kc + μ'.2.2.2.2.2.2.1) (ks + μ'.2.2.2.2.2.2.2) Q) : X ξ μ pc ls st sh M kc ks Q := by
  obtain ⟨h1, h2, h3, h4, h5, h6⟩ := xkV_of hk
  exact X_callS as rest hLk hMk h1 h2 h3 hst h4 h5 h6 hd hX k
theorem X_iG {k0 idx n : Nat} (as rest : List Value) (hLk : xLk μ.1.cls idx μ'.1) (hMk : xMkI μ' n) (hk : xkV μ μ' 1 kc ks n as rest = true) (hst : as.reverse ++ .ref k0 :: rest = st) (hd : decode μ.2.1 pc = .ok (.invokespecial idx, 3)) (hX : X ξ μ' 0 (.ref k0 :: as) [] sh M 0 0 Q')
    (k : ∀ r sh' M', Q' r sh' M' → X ξ μ (pc + 3) ls (r.toList ++ rest) sh' M' (kc + μ'.2.2.2.2.2.2.1) (ks + μ'.2.2.2.2.2.2.2) Q) : X ξ μ pc ls st sh M kc ks Q := by
  obtain ⟨h1, h2, h3, h4, h5, h6⟩ := xkV_of hk
  exact X_callI as rest hLk hMk h1 h2 h3 hst h4 (fun v hv => by
    rcases List.mem_cons.mp hv with rfl | hv
    · rfl
    · exact h5 v hv) h6 hd hX k

theorem X_vP {k0 idx n : Nat} (as rest : List Value) (hLk : xLk μ.1.cls idx μ'.1) (hMk : xMkV μ' n) (hR : xRv sh k0 μ'.1.cls) (hk : xkV μ μ' 1 kc ks n as rest = true) (h0 : μ'.2.2.2.2.2.2 = (0, 0)) (hst : as.reverse ++ .ref k0 :: rest = st) (hd : decode μ.2.1 pc = .ok (.invokevirtual idx, 3)) {o : Option Int32} {g : Int32 → Option α} (h : xb o g = some z) (hX : ∀ v, o = some v → X ξ μ' 0 (.ref k0 :: as) [] sh M 0 0 (xr (some (.int v)) sh M)) (k : ∀ v, g v = some z → X ξ μ (pc + 3) ls (.int v :: rest) sh M kc ks Q) : X ξ μ pc ls st sh M kc ks Q := by
  have e1 : μ'.2.2.2.2.2.2.1 = 0 := by rw [h0]
  have e2 : μ'.2.2.2.2.2.2.2 = 0 := by rw [h0]
  obtain ⟨v, hv, h⟩ := xb_some h
  refine X_vG as rest hLk hMk hR hk hst hd (hX v hv) (fun r sh' M' hq => ?_)
  obtain ⟨rfl, rfl, rfl⟩ := hq
  rw [e1, e2]
  exact k v h
theorem X_vI {k0 idx n : Nat} (as rest : List Value) (hLk : xLk μ.1.cls idx μ'.1) (hMk : xMkV μ' n) (hR : xRv sh k0 μ'.1.cls) (hk : xkV μ μ' 1 kc ks n as rest = true) (h0 : μ'.2.2.2.2.2.2 = (0, 0)) (hst : as.reverse ++ .ref k0 :: rest = st) (hd : decode μ.2.1 pc = .ok (.invokevirtual idx, 3)) {o : Option (Int32 × xM)} {g : Int32 → xM → Option α} (h : xb2 o g = some z) (hX : ∀ v, o = some v → X ξ μ' 0 (.ref k0 :: as) [] sh M 0 0 (xr (some (.int v.1)) sh v.2)) (k : ∀ v M1, g v M1 = some z → X ξ μ (pc + 3) ls (.int v :: rest) sh M1 kc ks Q) : X ξ μ pc ls st sh M kc ks Q := by
  have e1 : μ'.2.2.2.2.2.2.1 = 0 := by rw [h0]
  have e2 : μ'.2.2.2.2.2.2.2 = 0 := by rw [h0]
  obtain ⟨v, hv, h⟩ := xb2_some h
  refine X_vG as rest hLk hMk hR hk hst hd (hX v hv) (fun r sh' M' hq => ?_)
  obtain ⟨rfl, rfl, rfl⟩ := hq
  rw [e1, e2]
  exact k v.1 v.2 h
theorem X_vV {k0 idx n : Nat} (as rest : List Value) (hLk : xLk μ.1.cls idx μ'.1) (hMk : xMkV μ' n) (hR : xRv sh k0 μ'.1.cls) (hk : xkV μ μ' 1 kc ks n as rest = true) (h0 : μ'.2.2.2.2.2.2 = (0, 0)) (hst : as.reverse ++ .ref k0 :: rest = st) (hd : decode μ.2.1 pc = .ok (.invokevirtual idx, 3)) {o : Option xM} {g : xM → Option α} (h : xb o g = some z) (hX : ∀ v, o = some v → X ξ μ' 0 (.ref k0 :: as) [] sh M 0 0 (xr none sh v)) (k : ∀ M1, g M1 = some z → X ξ μ (pc + 3) ls rest sh M1 kc ks Q) : X ξ μ pc ls st sh M kc ks Q := by
  have e1 : μ'.2.2.2.2.2.2.1 = 0 := by rw [h0]
  have e2 : μ'.2.2.2.2.2.2.2 = 0 := by rw [h0]
  obtain ⟨v, hv, h⟩ := xb_some h
  refine X_vG as rest hLk hMk hR hk hst hd (hX v hv) (fun r sh' M' hq => ?_)
  obtain ⟨rfl, rfl, rfl⟩ := hq
  rw [e1, e2]
  exact k _ h

theorem X_sP {idx n : Nat} (as rest : List Value) (hLk : xLk μ.1.cls idx μ'.1) (hMk : xMkS μ' n) (hk : xkV μ μ' 0 kc ks n as rest = true) (h0 : μ'.2.2.2.2.2.2 = (0, 0)) (hst : as.reverse ++ rest = st) (hd : decode μ.2.1 pc = .ok (.invokestatic idx, 3)) {o : Option Int32} {g : Int32 → Option α} (h : xb o g = some z) (hX : ∀ v, o = some v → X ξ μ' 0 as [] sh M 0 0 (xr (some (.int v)) sh M)) (k : ∀ v, g v = some z → X ξ μ (pc + 3) ls (.int v :: rest) sh M kc ks Q) : X ξ μ pc ls st sh M kc ks Q := by
  have e1 : μ'.2.2.2.2.2.2.1 = 0 := by rw [h0]
  have e2 : μ'.2.2.2.2.2.2.2 = 0 := by rw [h0]
  obtain ⟨v, hv, h⟩ := xb_some h
  refine X_sG as rest hLk hMk hk hst hd (hX v hv) (fun r sh' M' hq => ?_)
  obtain ⟨rfl, rfl, rfl⟩ := hq
  rw [e1, e2]
  exact k v h
theorem X_sI {idx n : Nat} (as rest : List Value) (hLk : xLk μ.1.cls idx μ'.1) (hMk : xMkS μ' n) (hk : xkV μ μ' 0 kc ks n as rest = true) (h0 : μ'.2.2.2.2.2.2 = (0, 0)) (hst : as.reverse ++ rest = st) (hd : decode μ.2.1 pc = .ok (.invokestatic idx, 3)) {o : Option (Int32 × xM)} {g : Int32 → xM → Option α} (h : xb2 o g = some z) (hX : ∀ v, o = some v → X ξ μ' 0 as [] sh M 0 0 (xr (some (.int v.1)) sh v.2)) (k : ∀ v M1, g v M1 = some z → X ξ μ (pc + 3) ls (.int v :: rest) sh M1 kc ks Q) : X ξ μ pc ls st sh M kc ks Q := by
  have e1 : μ'.2.2.2.2.2.2.1 = 0 := by rw [h0]
  have e2 : μ'.2.2.2.2.2.2.2 = 0 := by rw [h0]
  obtain ⟨v, hv, h⟩ := xb2_some h
  refine X_sG as rest hLk hMk hk hst hd (hX v hv) (fun r sh' M' hq => ?_)
  obtain ⟨rfl, rfl, rfl⟩ := hq
  rw [e1, e2]
  exact k v.1 v.2 h
theorem X_sV {idx n : Nat} (as rest : List Value) (hLk : xLk μ.1.cls idx μ'.1) (hMk : xMkS μ' n) (hk : xkV μ μ' 0 kc ks n as rest = true) (h0 : μ'.2.2.2.2.2.2 = (0, 0)) (hst : as.reverse ++ rest = st) (hd : decode μ.2.1 pc = .ok (.invokestatic idx, 3)) {o : Option xM} {g : xM → Option α} (h : xb o g = some z) (hX : ∀ v, o = some v → X ξ μ' 0 as [] sh M 0 0 (xr none sh v)) (k : ∀ M1, g M1 = some z → X ξ μ (pc + 3) ls rest sh M1 kc ks Q) : X ξ μ pc ls st sh M kc ks Q := by
  have e1 : μ'.2.2.2.2.2.2.1 = 0 := by rw [h0]
  have e2 : μ'.2.2.2.2.2.2.2 = 0 := by rw [h0]
  obtain ⟨v, hv, h⟩ := xb_some h
  refine X_sG as rest hLk hMk hk hst hd (hX v hv) (fun r sh' M' hq => ?_)
  obtain ⟨rfl, rfl, rfl⟩ := hq
  rw [e1, e2]
  exact k _ h

/-! switches -/
theorem xne {x c : Int32} {n : Int} (hc : c.toInt = n) (h : ¬ x = c) : x.toInt ≠ n := fun e => h (Int32.toInt_inj.mp (e.trans hc.symm))
theorem xsw_out {x : Int32} {lo : Int} : ∀ n : Nat, (∀ k, k < n → x.toInt ≠ lo + k) → x.toInt < lo ∨ lo + n - 1 < x.toInt := by
  intro n h
  by_cases h1 : x.toInt < lo
  · exact Or.inl h1
  · refine Or.inr ?_
    by_cases h2 : lo + n - 1 < x.toInt
    · exact h2
    · exact absurd (by omega) (h (x.toInt - lo).toNat (by omega))
theorem X_tsIn {x : Int32} {dflt lo hi : Int} {offs : Array Int} {len : Nat} (c : Int32) (tgt : Nat) {off : Int} (hx : x = c) (hd : decode μ.2.1 pc = .ok (.tableswitch dflt lo hi offs, len)) (h1 : ¬ c.toInt < lo) (h2 : ¬ hi < c.toInt) (ho : offs[(c.toInt - lo).toNat]? = some off) (ht : (pc : Int) + off = (tgt : Int)) (k : X ξ μ tgt ls st sh M kc ks Q) : X ξ μ pc ls (.int x :: st) sh M kc ks Q := by
  subst hx
  intro l dC dI cI cZ cS B sa A p e s m args below meth c H locs arr hC hE hW hS hL
  exact lv_tableIn (tgt := tgt) hC.1 hC.2.1 hd h1 h2 ho ht (k l dC dI cI cZ cS B sa A p e s m args below meth c H locs arr hC hE hW hS hL)
theorem X_tsOut {x : Int32} {dflt lo hi : Int} {offs : Array Int} {len : Nat} (tgt : Nat) (hd : decode μ.2.1 pc = .ok (.tableswitch dflt lo hi offs, len)) (hx : x.toInt < lo ∨ hi < x.toInt) (ht : (pc : Int) + dflt = (tgt : Int)) (k : X ξ μ tgt ls st sh M kc ks Q) : X ξ μ pc ls (.int x :: st) sh M kc ks Q := by
  intro l dC dI cI cZ cS B sa A p e s m args below meth c H locs arr hC hE hW hS hL
  exact lv_tableOut (tgt := tgt) hC.1 hC.2.1 hd hx ht (k l dC dI cI cZ cS B sa A p e s m args below meth c H locs arr hC hE hW hS hL)
theorem X_lsw {x : Int32} {dflt : Int} {ps : Array (Int × Int)} {len : Nat} {off : Int} (tgt : Nat) (hd : decode μ.2.1 pc = .ok (.lookupswitch dflt ps, len)) (hp : (ps.toList.zip (ps.toList.drop 1)).all (fun (a, next) => a.1 < next.1) = true) (ho : Op.lookupswitch.offset ps.toList dflt x.toInt = off) (ht : (pc : Int) + off = (tgt : Int)) (k : X ξ μ tgt ls st sh M kc ks Q) : X ξ μ pc ls (.int x :: st) sh M kc ks Q := by
  intro l dC dI cI cZ cS B sa A p e s m args below meth c H locs arr hC hE hW hS hL
  exact lv_lookup (tgt := tgt) hC.1 hC.2.1 hd hp ho ht (k l dC dI cI cZ cS B sa A p e s m args below meth c H locs arr hC hE hW hS hL)
/-! new cells -/
def xn (M : xM) (k : Nat) : xM := fun a b => if a = k then 0 else M a b
theorem x_ws_new {cI cZ cS : ClassId} {B : Nat} {s : xS} : x_ws cI cZ cS B (sh ++ [s]) (xn M sh.length) = x_ws cI cZ cS B sh M ++ [(B + sh.length, x_cell cI cZ cS B (fun _ => 0) s)] := by
  rw [x_ws_push]
  congr 1
  · apply List.ext_getElem?
    intro i
    simp only [x_ws, List.getElem?_mapIdx]
    cases hi : sh[i]? with
    | none => rfl
    | some q =>
      have hl : i < sh.length := (List.getElem?_eq_some_iff.mp hi).1
      have e : xn M sh.length i = M i := by funext b; simp [xn, Nat.ne_of_lt hl]
      simp [e]
  · have e : xn M sh.length sh.length = fun _ => 0 := by funext b; simp [xn]
    rw [e]
theorem X_new {idx ci N : Nat} {C : String} {T : u_T} (fs : List (Option (Option Nat))) (ty : Nat → FieldType) (hcl : vwCl[ci]? = some (C, T, N)) (hin : ∀ w ∈ u_ws C T N, w ∈ xTW) (hty : ∀ k, k < N → parseFieldDescriptor (T k).2.2.1 = some (ty k)) (hw : Cond.classLink μ.1.cls idx C ∈ xTW ∧ Cond.instantiable C N ∈ xTW ∧ Cond.initialized C ∈ xTW) (hfs : ∀ j, j < N → (fs[j]? = some none ∧ defaultValue (ty j) = .int 0) ∨ (fs[j]? = some (some none) ∧ defaultValue (ty j) = .null)) (hk1 : kc + 1 ≤ μ.2.2.2.2.2.2.1) (hk2 : ks + N ≤ μ.2.2.2.2.2.2.2) (hd : decode μ.2.1 pc = .ok (.new idx, 3)) (k : X ξ μ (pc + 3) ls (.ref sh.length :: st) (sh ++ [.inr (ci, fs)]) (xn M sh.length) (kc + 1) (ks + N) Q) : X ξ μ pc ls st sh M kc ks Q := by
  intro l dC dI cI cZ cS B sa A p e s m args below meth c H locs arr hC hE hW hS hL
  have ht := hC.2.2.2.2.2.2.2
  obtain ⟨hK, hP, hD, hz⟩ := hW
  have hKn := hK.1 ci _ hcl
  refine W.newcK hC.1 hC.2.1 hC.2.2.2.2.1 (ht _ hw.1) (ht _ hw.2.1) (ht _ hw.2.2) rfl hd hk1 hk2 hKn.2.1 rfl fun H1 kC hkC e1 z1 o1 => ?_
  have hk : ∀ (k : Nat) (x : Nat × va_E), (x_ws cI cZ cS B sh M)[k]? = some x → H1[x.1]? = H[x.1]? := fun k x hx => o1 x.1 ((hP k x hx).lt)
  have hA : A H.size := hE.2.1 _ hS.1
  have hP1 : va_P (dC, dI) vwCl (x_ws cI cZ cS B (sh ++ [.inr (ci, fs)]) (xn M sh.length)) H1 := by
    rw [x_ws_new]
    refine (hP.kept hk).app (fun k x hx => ?_)
    have hz1 : k < 1 := (List.getElem?_eq_some_iff.mp hx).1
    rw [show k = 0 by omega] at hx
    cases hx
    refine ⟨_, hcl, t_OB.to (V := fun k => defaultValue (ty k)) (by rw [← hz]; exact u_born ty ht hin hKn hkC e1 hty) (fun j hj => ?_)⟩
    rcases hfs j hj with ⟨g1, g2⟩ | ⟨g1, g2⟩ <;> simp [g2, vp_V, List.getD_eq_getElem?_getD, List.getElem?_mapIdx, g1, x_val, va_rf]
  have hD1 : va_D A (x_ws cI cZ cS B (sh ++ [.inr (ci, fs)]) (xn M sh.length)) := by
    rw [x_ws_new]
    exact hD.push hP hz.symm (by rw [← hz]; exact hA)
  have k2 := k l dC dI cI cZ cS B sa A p e s m args below meth c H1 locs arr hC hE ⟨hK, hP1, hD1, by rw [z1, hz, List.length_append]; rfl⟩ ⟨Nat.le_trans hS.1 (by omega), fun x h1 h2 => (o1 x (Nat.lt_of_lt_of_le h1 hS.1)).trans (hS.2.1 x h1 h2), hS.2.2⟩ hL
  rw [List.map_cons] at k2
  have e3 : x_g B sa (.ref sh.length) = .ref H.size := by rw [hz]; rfl
  rw [e3] at k2
  exact k2
theorem X_newa {atype : ArrayType} {n : Int32} (tg N : Nat) (hat : tg = 0 ∧ newarray.typeOf atype = .int) (hw : Cond.arrayClass (newarray.typeOf atype) ∈ xTW) (hn : ¬ n < 0) (hN : n.toNatClampNeg = N) (hb : N * 4 ≤ 536870912) (hk1 : kc + 1 ≤ μ.2.2.2.2.2.2.1) (hk2 : ks + N ≤ μ.2.2.2.2.2.2.2) (hd : decode μ.2.1 pc = .ok (.newarray atype, 2)) (k : X ξ μ (pc + 2) ls (.ref sh.length :: st) (sh ++ [.inl (tg, N, [])]) (xn M sh.length) (kc + 1) (ks + N) Q) : X ξ μ pc ls (.int n :: st) sh M kc ks Q := by
  intro l dC dI cI cZ cS B sa A p e s m args below meth c H locs arr hC hE hW hS hL
  have ht := hC.2.2.2.2.2.2.2
  obtain ⟨hK, hP, hD, hz⟩ := hW
  refine va_newaK hC.1 hC.2.1 (ht _ hw) rfl hd rfl hn hN (by rw [hat.2]; simp only [componentBytes]; omega) hk1 hk2 rfl fun H1 cA e1 z1 o1 hAr hNm => ?_
  have hk : ∀ (k : Nat) (x : Nat × va_E), (x_ws cI cZ cS B sh M)[k]? = some x → H1[x.1]? = H[x.1]? := fun k x hx => o1 x.1 ((hP k x hx).lt)
  have hA : A H.size := hE.2.1 _ hS.1
  have hP1 : va_P (dC, dI) vwCl (x_ws cI cZ cS B (sh ++ [.inl (tg, N, [])]) (xn M sh.length)) H1 := by
    rw [x_ws_new]
    refine (hP.kept hk).app (fun k x hx => ?_)
    have hz1 : k < 1 := (List.getElem?_eq_some_iff.mp hx).1
    rw [show k = 0 by omega] at hx
    cases hx
    obtain ⟨rfl, e⟩ := hat
    · have hc : cA = cI := by
        have h9 := (hK.2 0 _ rfl).2
        rw [e] at hNm
        exact Option.some.inj (hNm.symm.trans h9)
      subst hc
      show H1[B + sh.length]? = some (vp_cell cA (N, .inl (fun _ => 0)))
      rw [vp_cell_i, ← hz, e1, e]
      rfl
  have hD1 : va_D A (x_ws cI cZ cS B (sh ++ [.inl (tg, N, [])]) (xn M sh.length)) := by
    rw [x_ws_new]
    exact hD.push hP hz.symm (by rw [← hz]; exact hA)
  have k2 := k l dC dI cI cZ cS B sa A p e s m args below meth c H1 locs arr hC hE ⟨hK, hP1, hD1, by rw [z1, hz, List.length_append]; rfl⟩ ⟨Nat.le_trans hS.1 (by omega), fun x h1 h2 => (o1 x (Nat.lt_of_lt_of_le h1 hS.1)).trans (hS.2.1 x h1 h2), hS.2.2⟩ hL
  rw [List.map_cons] at k2
  have e3 : x_g B sa (.ref sh.length) = .ref H.size := by rw [hz]; rfl
  rw [e3] at k2
  exact k2
theorem X_anew {n : Int32} {idx : Nat} (N : Nat) (hw : Cond.classLink μ.1.cls idx "SoundArchive$State" ∈ xTW) (ho : Cond.arrayOver (.object "SoundArchive$State") ∈ lw_tbl) (hn : ¬ n < 0) (hN : n.toNatClampNeg = N) (hb : N * 4 ≤ 536870912) (hk1 : kc + 1 ≤ μ.2.2.2.2.2.2.1) (hk2 : ks + N ≤ μ.2.2.2.2.2.2.2) (hd : decode μ.2.1 pc = .ok (.anewarray idx, 3)) (k : X ξ μ (pc + 3) ls (.ref sh.length :: st) (sh ++ [.inl (2, N, [])]) (xn M sh.length) (kc + 1) (ks + N) Q) : X ξ μ pc ls (.int n :: st) sh M kc ks Q := by
  intro l dC dI cI cZ cS B sa A p e s m args below meth c H locs arr hC hE hW hS hL
  have ht := hC.2.2.2.2.2.2.2
  obtain ⟨hK, hP, hD, hz⟩ := hW
  subst hN
  refine W.anew hC.1 hC.2.1 hC.2.2.2.2.1 (ht _ hw) (va_AO.use (hE.1 _ ho rfl)) rfl hd rfl hn hb hk1 hk2 fun cA kA comp f1 f2 f3 f4 => ?_
  generalize hH1 : H.push ({ cls := cA, slots := Array.replicate n.toNatClampNeg .null, vm := .none } : Cell) = H1
  have z1 : H1.size = H.size + 1 := by rw [← hH1, Array.size_push]
  have e1 : H1[H.size]? = some (arrV cA n.toNatClampNeg (fun _ => .null)) := by rw [← hH1, Array.getElem?_push_size, ← arrV_new]
  have o1 : ∀ q : Nat, q < H.size → H1[q]? = H[q]? := fun q hq => by rw [← hH1, Array.getElem?_push, if_neg (Nat.ne_of_lt hq)]
  have hk : ∀ (k : Nat) (x : Nat × va_E), (x_ws cI cZ cS B sh M)[k]? = some x → H1[x.1]? = H[x.1]? := fun k x hx => o1 x.1 ((hP k x hx).lt)
  have hA : A H.size := hE.2.1 _ hS.1
  have hP1 : va_P (dC, dI) vwCl (x_ws cI cZ cS B (sh ++ [.inl (2, n.toNatClampNeg, [])]) (xn M sh.length)) H1 := by
    rw [x_ws_new]
    refine (hP.kept hk).app (fun k x hx => ?_)
    have hz1 : k < 1 := (List.getElem?_eq_some_iff.mp hx).1
    rw [show k = 0 by omega] at hx
    cases hx
    have hc : cA = cS := by
      obtain ⟨kA', comp', g1, g2, g3, g4⟩ := (hK.2 2 _ rfl).2
      exact Option.some.inj (f1.symm.trans g4)
    subst hc
    show H1[B + sh.length]? = some (vp_cell cA (n.toNatClampNeg, .inr (.inr (.inr (.inr (fun _ => none))))))
    rw [vp_cell_q, ← hz, e1]
    rfl
  have hD1 : va_D A (x_ws cI cZ cS B (sh ++ [.inl (2, n.toNatClampNeg, [])]) (xn M sh.length)) := by
    rw [x_ws_new]
    exact hD.push hP hz.symm (by rw [← hz]; exact hA)
  have k2 := k l dC dI cI cZ cS B sa A p e s m args below meth c H1 locs arr hC hE ⟨hK, hP1, hD1, by rw [z1, hz, List.length_append]; rfl⟩ ⟨Nat.le_trans hS.1 (by omega), fun x h1 h2 => (o1 x (Nat.lt_of_lt_of_le h1 hS.1)).trans (hS.2.1 x h1 h2), hS.2.2⟩ hL
  rw [List.map_cons] at k2
  have e3 : x_g B sa (.ref sh.length) = .ref H.size := by rw [hz]; rfl
  rw [e3] at k2
  exact k2
/-- a State put into the history's row -/
theorem X_aast {k0 n q ci : Nat} {rs : List (Option Nat)} {fs : List (Option (Option Nat))} {r : vw_C} {i : Int32} (rs' : List (Option Nat)) (sh' : List xS) (h0 : sh[k0]? = some (.inl (2, n, rs))) (h1 : sh[q]? = some (.inr (ci, fs))) (hc : vwCl[ci]? = some r) (hr : r.1 = "SoundArchive$State") (hi : xin i n = true) (hrs : ∀ j, (rs'[j]?).getD none = if j = i.toNatClampNeg then some q else (rs[j]?).getD none) (hsh : sh.set k0 (.inl (2, n, rs')) = sh') (hd : decode μ.2.1 pc = .ok (.aastore, 1)) (k : X ξ μ (pc + 1) ls st sh' M kc ks Q) : X ξ μ pc ls (.ref q :: .int i :: .ref k0 :: st) sh M kc ks Q := by
  intro l dC dI cI cZ cS B sa A p e s m args below meth c H locs arr hC hE hW hS hL
  subst hsh
  obtain ⟨hK, hP, hD, hz⟩ := hW
  have e0 := x_ws_at (cI := cI) (cZ := cZ) (cS := cS) (B := B) (M := M) h0
  have e1 := x_ws_at (cI := cI) (cZ := cZ) (cS := cS) (B := B) (M := M) h1
  have hin := xin_vp hi
  have hlt : i.toNatClampNeg < n := Nat.not_le.mp fun q => hin (Or.inr q)
  have h00 : ¬ i < 0 := fun q => hin (Or.inl q)
  obtain ⟨r', hr', cellV, g1, g2, g3, -⟩ := hP q _ e1
  have hcls := (hK.1 ci r hc).2
  have hKA := hK.2 2 _ rfl
  obtain ⟨kA, comp, k1, k2, k3, -⟩ := hKA.2
  have hcomp : comp = dC ci := by
    have h9 := hcls.1
    rw [hr] at h9
    exact Option.some.inj (k3.symm.trans h9)
  subst hcomp
  obtain ⟨kC, hkC, -⟩ := hcls.2
  refine W.aast hC.1 hC.2.1 (hP k0 _ e0) (fun q h => by cases h) (fun h => by cases h) k1 k2 rfl hkC ⟨h00, by show _ < (arrV _ _ _).slots.size; rw [arrV_size]; exact hlt⟩ g1 (fun q h => by rw [g3] at h; cases h) (by rw [g2]; exact hkC) (by rw [g2]; exact va_assign hcls) rfl rfl hd fun H1 e9 z9 oq => ?_
  have e2 : (x_ws cI cZ cS B sh M).set k0 (B + k0, .inl (cS, n, .inr (.inr (.inr (.inr (va_up (fun j => ((rs[j]?).getD none).map (fun q => B + q)) i.toNatClampNeg (some (B + q)))))))) = x_ws cI cZ cS B (sh.set k0 (.inl (2, n, rs'))) M := x_ws_setS h0 (by
    show (Sum.inl (cS, n, _) : va_E) = _
    congr 7
    funext j
    rw [hrs j]
    unfold va_up
    by_cases hj : j = i.toNatClampNeg
    · rw [if_pos hj, if_pos hj]; rfl
    · rw [if_neg hj, if_neg hj])
  have hP1 := hP.set (e := .inl (cS, n, .inr (.inr (.inr (.inr (va_up (fun j => ((rs[j]?).getD none).map (fun q => B + q)) i.toNatClampNeg (some (B + q)))))))) hD e0 (by
    show H1[B + k0]? = some (vp_cell _ _)
    rw [e9]
    show some ((vp_cell cS (n, .inr (.inr (.inr (.inr (fun j => ((rs[j]?).getD none).map (fun q => B + q)))))) ).setSlot _ _) = _
    rw [vp_cell_q, vp_cell_q, arrV_store]
    congr 2
    funext x
    by_cases hx : x = i.toNatClampNeg
    · subst hx
      simp [updV, va_up, va_rf]
    · simp [updV, va_up, hx]) oq
  rw [e2] at hP1
  have hD1 : va_D A (x_ws cI cZ cS B (sh.set k0 (.inl (2, n, rs'))) M) := by rw [← e2]; exact hD.set e0
  exact k l dC dI cI cZ cS B sa A p e s m args below meth c H1 _ arr hC hE ⟨hK, hP1, hD1, by rw [z9, hz, List.length_set]⟩ (hS.put z9 oq (hD.2 k0 _ e0)) hL
end XG

