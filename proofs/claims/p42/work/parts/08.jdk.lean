section XJ
variable {ξ : xX} {μ μ' : xD} {pc : Nat} {ls st as rest : List Value} {sh sh' : List xS} {M : xM} {kc ks : Nat} {Q Q' : Option Value → List xS → xM → Prop} {α β : Type} {z : α}
def xmx (x y : Int32) : Int32 := if x < y then y else x
def xmn (x y : Int32) : Int32 := if y < x then y else x
def xJm (own : String) (idx : Nat) (y : MethodName) (cc : ByteArray) : Prop := Cond.methodLink own idx y ∈ xTW ∧ Cond.static y ∈ xTW ∧ Cond.initialized "java/lang/Math" ∈ xTW ∧ Cond.code y cc 2 (some .int) ∈ xTW
theorem X_max {idx : Nat} {x y : Int32} (hJ : xJm μ.1.cls idx Lib.Math.max.name Lib.Math.max.code) (hf : 1 ≤ μ.2.2.2.2.1) (hl : (st.map fun v => v.category).sum + 13 ≤ μ.2.2.2.2.2.1) (hk1 : kc ≤ μ.2.2.2.2.2.2.1) (hk2 : ks ≤ μ.2.2.2.2.2.2.2) (hd : decode μ.2.1 pc = .ok (.invokestatic idx, 3)) (k : X ξ μ (pc + 3) ls (.int (xmx x y) :: st) sh M kc ks Q) : X ξ μ pc ls (.int y :: .int x :: st) sh M kc ks Q := by
  intro l dC dI cI cZ cS B sa A p e s m args below meth c H locs arr hC hE hW hS hL
  have ht := hC.2.2.2.2.2.2.2
  exact va_mmax hC.1 hC.2.1 (hC.2.2.2.1.trans (x_hasL_sz hL).symm) hC.2.2.2.2.1 (ht _ hJ.1) (ht _ hJ.2.1) (ht _ hJ.2.2.1) (ht _ hJ.2.2.2) hf (by rw [x_g_cats]; exact hl) hk1 hk2 hd (k l dC dI cI cZ cS B sa A p e s m args below meth c H locs arr hC hE hW hS hL)
theorem X_min {idx : Nat} {x y : Int32} (hJ : xJm μ.1.cls idx Lib.Math.min.name Lib.Math.min.code) (hf : 1 ≤ μ.2.2.2.2.1) (hl : (st.map fun v => v.category).sum + 13 ≤ μ.2.2.2.2.2.1) (hk1 : kc ≤ μ.2.2.2.2.2.2.1) (hk2 : ks ≤ μ.2.2.2.2.2.2.2) (hd : decode μ.2.1 pc = .ok (.invokestatic idx, 3)) (k : X ξ μ (pc + 3) ls (.int (xmn x y) :: st) sh M kc ks Q) : X ξ μ pc ls (.int y :: .int x :: st) sh M kc ks Q := by
  intro l dC dI cI cZ cS B sa A p e s m args below meth c H locs arr hC hE hW hS hL
  have ht := hC.2.2.2.2.2.2.2
  exact va_mmin hC.1 hC.2.1 (hC.2.2.2.1.trans (x_hasL_sz hL).symm) hC.2.2.2.2.1 (ht _ hJ.1) (ht _ hJ.2.1) (ht _ hJ.2.2.1) (ht _ hJ.2.2.2) hf (by rw [x_g_cats]; exact hl) hk1 hk2 hd (k l dC dI cI cZ cS B sa A p e s m args below meth c H locs arr hC hE hW hS hL)
theorem X_obj {idx : Nat} {k0 : Nat} (hJ : Cond.methodLink μ.1.cls idx Lib.objectInit ∈ xTW ∧ Cond.instanceMethod Lib.objectInit ∈ xTW ∧ Cond.code Lib.objectInit ⟨#[0xb1]⟩ 1 none ∈ xTW) (hf : 1 ≤ μ.2.2.2.2.1) (hl : (st.map fun v => v.category).sum + 12 ≤ μ.2.2.2.2.2.1) (hd : decode μ.2.1 pc = .ok (.invokespecial idx, 3)) (k : X ξ μ (pc + 3) ls st sh M kc ks Q) : X ξ μ pc ls (.ref k0 :: st) sh M kc ks Q := by
  intro l dC dI cI cZ cS B sa A p e s m args below meth c H locs arr hC hE hW hS hL
  have ht := hC.2.2.2.2.2.2.2
  refine W.objInit hC.1 hC.2.1 hC.2.2.2.2.1 (ht _ hJ.1) (ht _ hJ.2.1) (ht _ hJ.2.2) rfl (by rw [hC.2.2.2.1]; exact x_hasL_sz hL) rfl hd hf (by show 2 * 0 + ((st.map (x_g B sa)).map fun v => v.category).sum + 12 ≤ _; rw [x_g_cats]; show _ ≤ μ.2.2.2.2.2.1; omega) ?_
  exact k l dC dI cI cZ cS B sa A p e s m args below meth c H locs arr hC hE hW hS hL
/-- numbers copied from one array to another: M behind it -/
def xcp (M : xM) (k0 k1 : Nat) (sp dp n : Nat) : xM := fun a b => if a = k1 then va_cpy (M k0) (M k1) sp dp n b else M a b
def xcpG (sp dp n : Int32) (n0 n1 : Nat) : Bool := !decide (sp < 0) && !decide (dp < 0) && !decide (n < 0) && decide (sp.toNatClampNeg + n.toNatClampNeg ≤ n0) && decide (dp.toNatClampNeg + n.toNatClampNeg ≤ n1)
theorem x_copyi {p : Program} {l : Launch} {e : Env} {R : Room} {s : State} {m : MethodId} {args : Array Value} {below : List Frame} {meth : Method} {c : Code} {H : Heap} {locs : List Loc} {cells slots : Nat} {Q : State → Prop} {pc : Nat} {ls : Array Slot} {rest : List Value} {D : va_G} {cl : List vw_C} {A : Nat → Prop} {a : Nat} {tys : List (ClassId × FieldType)} {ws : va_W} {H0 : Heap}
    {cc : ByteArray} (hexec : p.tables.exec = Jvm.exec) (hb : c.code = cc) (hml : c.maxLocals = ls.size) {own : String} {index : Nat} (hown : s.vm.findClass own = some m.cls) (hlink : (Cond.methodLink own index arraycopyName).before args s = true) (hnat : (Cond.native arraycopyName).before args s = true) (hstat : (Cond.static arraycopyName).before args s = true) (hini : (Cond.initialized "java/lang/System").before args s = true)
    (hK : va_K D cl tys s) (hP : va_P D cl ws H) (hD : va_D A ws) (hS : va_S A H0 H locs) (q0 q1 t0 t1 : Nat) {a0 : Nat} {c0 c1 : ClassId} {n0 n1 : Nat} {f g : Nat → Int32} {ty : FieldType} (ha0 : ws[q0]? = some (a0, .inl (c0, n0, .inl f))) (ha1 : ws[q1]? = some (a, .inl (c1, n1, .inl g))) (ht0 : tys[t0]? = some (c0, ty)) (ht1 : tys[t1]? = some (c1, ty)) (hprim : refKind ty = false)
    {sp dp n : Int32} (h1 : ¬ sp < 0) (h2 : ¬ dp < 0) (h3 : ¬ n < 0) (h4 : sp.toNatClampNeg + n.toNatClampNeg ≤ n0) (h5 : dp.toNatClampNeg + n.toNatClampNeg ≤ n1) (hfit : ∀ i, i < n.toNatClampNeg → fits ty (.int (f (sp.toNatClampNeg + i))) = true)
    (hframes : 1 ≤ R.frames) (hlocals : (rest.map fun v => v.category).sum + (nativeFrameWords "java/lang/System" "arraycopy" 5 + 11) ≤ R.locals) (hdg : decode cc pc = .ok (.invokestatic index, 3))
    (kk : ∀ (H1 : Heap) (locs1 : List Loc), H1.size = H.size → va_P D cl (ws.set q1 (a, .inl (c1, n1, .inl (va_cpy f g sp.toNatClampNeg dp.toNatClampNeg n.toNatClampNeg)))) H1 → va_D A (ws.set q1 (a, .inl (c1, n1, .inl (va_cpy f g sp.toNatClampNeg dp.toNatClampNeg n.toNatClampNeg)))) → va_S A H0 H1 locs1 → W p l e R s m args below meth c H1 locs1 cells slots Q (F0 m (pc + 3) ls rest)) : W p l e R s m args below meth c H locs cells slots Q (F0 m pc ls (.int n :: .int dp :: .ref a :: .int sp :: .ref a0 :: rest)) := by
  have nn : ∀ z : Int32, ¬ z < 0 → z.toInt = (z.toNatClampNeg : Int) := by
    intro z hz
    have hz0 : (0 : Int) ≤ z.toInt := by
      have := Int32.not_lt.mp hz
      simpa using Int32.le_iff_toInt_le.mp this
    show z.toInt = ((z.toInt.toNat : Nat) : Int)
    omega
  intro T hT X
  have hc0 : H[a0]? = some (vp_cell c0 (n0, .inl f)) := hP q0 _ ha0
  have hc1 : H[a]? = some (vp_cell c1 (n1, .inl g)) := hP q1 _ ha1
  obtain ⟨-, k0, hk0, cm0, hkk0⟩ := (hK.2 t0 _ ht0).1 n0 (fun j => .int (f j))
  obtain ⟨-, k1, hk1, cm1, hkk1⟩ := (hK.2 t1 _ ht1).1 n1 (fun j => .int (g j))
  obtain ⟨vm', X', step⟩ := X.arraycopy hexec hown hlink hnat hstat hini (src := a0) (dst := a) (cs := vp_cell c0 (n0, .inl f)) (cd := vp_cell c1 (n1, .inl g)) (srcPos := sp) (destPos := dp) (n := n) (by rw [hT]; exact hc0) (by rw [hT]; exact hc1)
    (fun _ h => by cases h) (fun _ h => by cases h) (fun h => by cases h) (fun h => by cases h) hk0 hk1 hkk0 hkk1 (by simp [hprim]) h1 h2 h3
    (by rw [nn sp h1, nn n h3]; show ¬ _ > ((arrV c0 n0 (fun j => .int (f j))).slots.size : Int); rw [arrV_size]; omega)
    (by rw [nn dp h2, nn n h3]; show ¬ _ > ((arrV c1 n1 (fun j => .int (g j))).slots.size : Int); rw [arrV_size]; omega)
    (fun vm₁ _ i hi => by
      have e : (vp_cell c0 (n0, .inl f)).slots.getD (sp.toNatClampNeg + i) .null = .int (f (sp.toNatClampNeg + i)) := by
        show (arrV c0 n0 (fun j => .int (f j))).slots.getD _ _ = _
        rw [Array.getD_eq_getD_getElem?, arrV_read _ _ (by omega)]
        rfl
      refine ⟨?_, ?_⟩
      · rw [e]
        exact hfit i hi
      · rw [e]
        exact trivial)
    (g := F0 m pc ls (.int n :: .int dp :: .ref a :: .int sp :: .ref a0 :: rest)) rfl (by rw [hml]) (rest := rest) rfl (by rw [hb]; exact hdg) hframes (by show 2 * 0 + _ + _ ≤ _; omega)
  have e1 : copied (vp_cell c0 (n0, .inl f)) (vp_cell c1 (n1, .inl g)) sp dp n = vp_cell c1 (n1, .inl (va_cpy f g sp.toNatClampNeg dp.toNatClampNeg n.toNatClampNeg)) := va_copied (fun z => .int z) c0 c1 f g h4
  rw [e1] at X' step
  have hl : a < H.size := (Array.getElem?_eq_some_iff.mp hc1).1
  have hheap : ((T.setVm vm').setCell a (vp_cell c1 (n1, .inl (va_cpy f g sp.toNatClampNeg dp.toNatClampNeg n.toNatClampNeg)))).heap = H.setIfInBounds a (vp_cell c1 (n1, .inl (va_cpy f g sp.toNatClampNeg dp.toNatClampNeg n.toNatClampNeg))) := by rw [← hT]; rfl
  have oq : ∀ q : Nat, q ≠ a → (H.setIfInBounds a (vp_cell c1 (n1, .inl (va_cpy f g sp.toNatClampNeg dp.toNatClampNeg n.toNatClampNeg))))[q]? = H[q]? := fun q hq => by simp [Array.getElem?_setIfInBounds, Ne.symm hq]
  obtain ⟨t, a1, b1⟩ := kk _ _ (by simp) (hP.set hD ha1 (show (H.setIfInBounds a _)[a]? = some _ by simp [Array.getElem?_setIfInBounds, hl]) oq) (hD.set ha1) ⟨by simp; exact hS.1, fun q g1 g2 => by
      rw [oq q (fun e => g2 (by rw [e]; exact hD.2 q1 _ ha1))]
      exact hS.2.1 q g1 g2, fun q hq => by
      rcases List.mem_append.mp hq with h | h
      · exact hS.2.2 q h
      · obtain ⟨z, -, hz⟩ := List.mem_map.mp h
        rw [← hz]
        exact hD.2 q1 _ ha1⟩ _ hheap X'
  exact ⟨t, step t a1, b1⟩
def xJc (own : String) (idx : Nat) : Prop := Cond.methodLink own idx arraycopyName ∈ xTW ∧ Cond.native arraycopyName ∈ xTW ∧ Cond.static arraycopyName ∈ xTW ∧ Cond.initialized "java/lang/System" ∈ xTW
theorem X_copy {idx k0 k1 n0 n1 : Nat} {rs0 rs1 : List (Option Nat)} {sp dp n : Int32} {g : xM → Option α} (hJ : xJc μ.1.cls idx) (hf : 1 ≤ μ.2.2.2.2.1) (hl : (st.map fun v => v.category).sum + 18 ≤ μ.2.2.2.2.2.1) (h0 : sh[k0]? = some (.inl (0, n0, rs0))) (h1 : sh[k1]? = some (.inl (0, n1, rs1))) (hd : decode μ.2.1 pc = .ok (.invokestatic idx, 3)) (h : xgd (xcpG sp dp n n0 n1) (xl (xcp M k0 k1 sp.toNatClampNeg dp.toNatClampNeg n.toNatClampNeg) g) = some z) (k : ∀ M1 : xM, g M1 = some z → X ξ μ (pc + 3) ls st sh M1 kc ks Q) : X ξ μ pc ls (.int n :: .int dp :: .ref k1 :: .int sp :: .ref k0 :: st) sh M kc ks Q := by
  intro l dC dI cI cZ cS B sa A p e s m args below meth c H locs arr hC hE hW hS hL
  obtain ⟨hg, h⟩ := xgd_some h
  simp only [xcpG, Bool.and_eq_true, Bool.not_eq_true', decide_eq_false_iff_not, decide_eq_true_eq] at hg
  obtain ⟨⟨⟨⟨g1, g2⟩, g3⟩, g4⟩, g5⟩ := hg
  have ht := hC.2.2.2.2.2.2.2
  have e0 := x_ws_at (cI := cI) (cZ := cZ) (cS := cS) (B := B) (M := M) h0
  have e1 := x_ws_at (cI := cI) (cZ := cZ) (cS := cS) (B := B) (M := M) h1
  have e2 : (x_ws cI cZ cS B sh M).set k1 (B + k1, .inl (cI, n1, .inl (va_cpy (M k0) (M k1) sp.toNatClampNeg dp.toNatClampNeg n.toNatClampNeg))) = x_ws cI cZ cS B sh (xcp M k0 k1 sp.toNatClampNeg dp.toNatClampNeg n.toNatClampNeg) := x_ws_set h1 (fun i hi => by funext b; simp [xcp, hi]) (by show (Sum.inl (cI, n1, _) : va_E) = _; congr 4; funext b; simp [xcp])
  refine x_copyi hC.1 hC.2.1 (hC.2.2.2.1.trans (x_hasL_sz hL).symm) hC.2.2.2.2.1 (ht _ hJ.1) (ht _ hJ.2.1) (ht _ hJ.2.2.1) (ht _ hJ.2.2.2) hW.1 hW.2.1 hW.2.2.1 hS k0 k1 0 0 e0 e1 rfl rfl rfl g1 g2 g3 g4 g5 (fun _ _ => rfl) hf (by rw [x_g_cats]; exact hl) hd (fun H1 locs1 hz hP hD hS1 => ?_)
  rw [e2] at hP hD
  exact k _ h l dC dI cI cZ cS B sa A p e s m args below meth c H1 locs1 arr hC hE ⟨hW.1, hP, hD, hz.trans hW.2.2.2⟩ hS1 hL
end XJ

