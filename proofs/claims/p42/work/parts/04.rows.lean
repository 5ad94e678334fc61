section XR
variable {ξ : xX} {μ : xD} {pc : Nat} {ls st : List Value} {sh : List xS} {M : xM} {kc ks : Nat} {Q : Option Value → List xS → xM → Prop}
theorem X_eq {pc2 : Nat} (h : pc = pc2) (k : X ξ μ pc2 ls st sh M kc ks Q) : X ξ μ pc ls st sh M kc ks Q := h ▸ k
theorem X_mono {Q2 : Option Value → List xS → xM → Prop} (hq : ∀ r sh M, Q2 r sh M → Q r sh M) (k : X ξ μ pc ls st sh M kc ks Q2) : X ξ μ pc ls st sh M kc ks Q := by
  intro l dC dI cI cZ cS B sa A p e s m args below meth c H locs arr hC hE hW hS hL
  intro T hT Y
  obtain ⟨t, a, o, b1, b2, ⟨⟨r, sh2, M2, c1, c2, c3⟩, c4⟩, b4⟩ := (k l dC dI cI cZ cS B sa A p e s m args below meth c H locs arr hC hE hW hS hL) T hT Y
  exact ⟨t, a, o, b1, b2, ⟨⟨r, sh2, M2, c1, hq _ _ _ c2, c3⟩, c4⟩, b4⟩
theorem X_cut (n : Nat) (k : X ξ μ pc (ls.take n) st sh M kc ks Q) : X ξ μ pc ls st sh M kc ks Q := by
  intro l dC dI cI cZ cS B sa A p e s m args below meth c H locs arr hC hE hW hS hL
  refine k l dC dI cI cZ cS B sa A p e s m args below meth c H locs arr hC hE hW hS (x_hasL_of hL fun i v hv => ?_)
  rw [List.getElem?_take] at hv
  split at hv
  · have := x_ix_at (ls.map (x_g B sa)) 0 i (x_g B sa v) (by simp [hv])
    rw [Nat.zero_add] at this
    exact List.mem_of_getElem? this
  · cases hv
theorem X_iadd {x y : Int32} (hd : decode μ.2.1 pc = .ok (.iadd, 1)) (k : X ξ μ (pc + 1) ls (.int (x + y) :: st) sh M kc ks Q) : X ξ μ pc ls (.int y :: .int x :: st) sh M kc ks Q := by
  intro l dC dI cI cZ cS B sa A p e s m args below meth c H locs arr hC hE hW hS hL
  exact lv_iadd hC.1 hC.2.1 hd (k l dC dI cI cZ cS B sa A p e s m args below meth c H locs arr hC hE hW hS hL)
theorem X_isub {x y : Int32} (hd : decode μ.2.1 pc = .ok (.isub, 1)) (k : X ξ μ (pc + 1) ls (.int (x - y) :: st) sh M kc ks Q) : X ξ μ pc ls (.int y :: .int x :: st) sh M kc ks Q := by
  intro l dC dI cI cZ cS B sa A p e s m args below meth c H locs arr hC hE hW hS hL
  exact lv_isub hC.1 hC.2.1 hd (k l dC dI cI cZ cS B sa A p e s m args below meth c H locs arr hC hE hW hS hL)
theorem X_imul {x y : Int32} (hd : decode μ.2.1 pc = .ok (.imul, 1)) (k : X ξ μ (pc + 1) ls (.int (x * y) :: st) sh M kc ks Q) : X ξ μ pc ls (.int y :: .int x :: st) sh M kc ks Q := by
  intro l dC dI cI cZ cS B sa A p e s m args below meth c H locs arr hC hE hW hS hL
  exact lv_imul hC.1 hC.2.1 hd (k l dC dI cI cZ cS B sa A p e s m args below meth c H locs arr hC hE hW hS hL)
theorem X_iand {x y : Int32} (hd : decode μ.2.1 pc = .ok (.iand, 1)) (k : X ξ μ (pc + 1) ls (.int (x &&& y) :: st) sh M kc ks Q) : X ξ μ pc ls (.int y :: .int x :: st) sh M kc ks Q := by
  intro l dC dI cI cZ cS B sa A p e s m args below meth c H locs arr hC hE hW hS hL
  exact lv_iand hC.1 hC.2.1 hd (k l dC dI cI cZ cS B sa A p e s m args below meth c H locs arr hC hE hW hS hL)
theorem X_ior {x y : Int32} (hd : decode μ.2.1 pc = .ok (.ior, 1)) (k : X ξ μ (pc + 1) ls (.int (x ||| y) :: st) sh M kc ks Q) : X ξ μ pc ls (.int y :: .int x :: st) sh M kc ks Q := by
  intro l dC dI cI cZ cS B sa A p e s m args below meth c H locs arr hC hE hW hS hL
  exact lv_ior hC.1 hC.2.1 hd (k l dC dI cI cZ cS B sa A p e s m args below meth c H locs arr hC hE hW hS hL)
theorem X_ixor {x y : Int32} (hd : decode μ.2.1 pc = .ok (.ixor, 1)) (k : X ξ μ (pc + 1) ls (.int (x ^^^ y) :: st) sh M kc ks Q) : X ξ μ pc ls (.int y :: .int x :: st) sh M kc ks Q := by
  intro l dC dI cI cZ cS B sa A p e s m args below meth c H locs arr hC hE hW hS hL
  exact lv_ixor hC.1 hC.2.1 hd (k l dC dI cI cZ cS B sa A p e s m args below meth c H locs arr hC hE hW hS hL)
theorem X_ishl {x y : Int32} (hd : decode μ.2.1 pc = .ok (.ishl, 1)) (k : X ξ μ (pc + 1) ls (.int (x <<< (y &&& 31)) :: st) sh M kc ks Q) : X ξ μ pc ls (.int y :: .int x :: st) sh M kc ks Q := by
  intro l dC dI cI cZ cS B sa A p e s m args below meth c H locs arr hC hE hW hS hL
  exact lv_ishl hC.1 hC.2.1 hd (k l dC dI cI cZ cS B sa A p e s m args below meth c H locs arr hC hE hW hS hL)
theorem X_ishr {x y : Int32} (hd : decode μ.2.1 pc = .ok (.ishr, 1)) (k : X ξ μ (pc + 1) ls (.int (x >>> (y &&& 31)) :: st) sh M kc ks Q) : X ξ μ pc ls (.int y :: .int x :: st) sh M kc ks Q := by
  intro l dC dI cI cZ cS B sa A p e s m args below meth c H locs arr hC hE hW hS hL
  exact lv_ishr hC.1 hC.2.1 hd (k l dC dI cI cZ cS B sa A p e s m args below meth c H locs arr hC hE hW hS hL)
theorem X_idiv {x y : Int32} (hne : ¬ y = 0) (hd : decode μ.2.1 pc = .ok (.idiv, 1)) (k : X ξ μ (pc + 1) ls (.int (x / y) :: st) sh M kc ks Q) : X ξ μ pc ls (.int y :: .int x :: st) sh M kc ks Q := by
  intro l dC dI cI cZ cS B sa A p e s m args below meth c H locs arr hC hE hW hS hL
  exact lv_idiv hC.1 hC.2.1 hd hne (k l dC dI cI cZ cS B sa A p e s m args below meth c H locs arr hC hE hW hS hL)
theorem X_irem {x y : Int32} (hne : ¬ y = 0) (hd : decode μ.2.1 pc = .ok (.irem, 1)) (k : X ξ μ (pc + 1) ls (.int (x - x / y * y) :: st) sh M kc ks Q) : X ξ μ pc ls (.int y :: .int x :: st) sh M kc ks Q := by
  intro l dC dI cI cZ cS B sa A p e s m args below meth c H locs arr hC hE hW hS hL
  exact lv_irem hC.1 hC.2.1 hd hne (k l dC dI cI cZ cS B sa A p e s m args below meth c H locs arr hC hE hW hS hL)
theorem X_iushr {x y : Int32} (hd : decode μ.2.1 pc = .ok (.iushr, 1)) (k : X ξ μ (pc + 1) ls (.int ((x.toUInt32 >>> (y.toUInt32 &&& Int32.toUInt32 31)).toInt32) :: st) sh M kc ks Q) : X ξ μ pc ls (.int y :: .int x :: st) sh M kc ks Q := by
  intro l dC dI cI cZ cS B sa A p e s m args below meth c H locs arr hC hE hW hS hL
  exact lv_iushr hC.1 hC.2.1 hd rfl (k l dC dI cI cZ cS B sa A p e s m args below meth c H locs arr hC hE hW hS hL)
theorem X_ineg {x : Int32} (hd : decode μ.2.1 pc = .ok (.ineg, 1)) (k : X ξ μ (pc + 1) ls (.int (-x) :: st) sh M kc ks Q) : X ξ μ pc ls (.int x :: st) sh M kc ks Q := by
  intro l dC dI cI cZ cS B sa A p e s m args below meth c H locs arr hC hE hW hS hL
  exact lv_ineg hC.1 hC.2.1 hd (k l dC dI cI cZ cS B sa A p e s m args below meth c H locs arr hC hE hW hS hL)
theorem X_iconst {n : Int} (v : Int32) (hd : decode μ.2.1 pc = .ok (.iconst n, 1)) (hv : Int32.ofInt n = v) (k : X ξ μ (pc + 1) ls (.int v :: st) sh M kc ks Q) : X ξ μ pc ls st sh M kc ks Q := by
  intro l dC dI cI cZ cS B sa A p e s m args below meth c H locs arr hC hE hW hS hL
  exact lv_iconst hC.1 hC.2.1 hd hv (k l dC dI cI cZ cS B sa A p e s m args below meth c H locs arr hC hE hW hS hL)
theorem X_bipush {n : Int} (v : Int32) (hd : decode μ.2.1 pc = .ok (.bipush n, 2)) (hv : (Int8.ofInt n).toInt32 = v) (k : X ξ μ (pc + 2) ls (.int v :: st) sh M kc ks Q) : X ξ μ pc ls st sh M kc ks Q := by
  intro l dC dI cI cZ cS B sa A p e s m args below meth c H locs arr hC hE hW hS hL
  exact lv_bipush hC.1 hC.2.1 hd hv (k l dC dI cI cZ cS B sa A p e s m args below meth c H locs arr hC hE hW hS hL)
theorem X_sipush {n : Int} (v : Int32) (hd : decode μ.2.1 pc = .ok (.sipush n, 3)) (hv : (Int16.ofInt n).toInt32 = v) (k : X ξ μ (pc + 3) ls (.int v :: st) sh M kc ks Q) : X ξ μ pc ls st sh M kc ks Q := by
  intro l dC dI cI cZ cS B sa A p e s m args below meth c H locs arr hC hE hW hS hL
  exact lv_sipush hC.1 hC.2.1 hd hv (k l dC dI cI cZ cS B sa A p e s m args below meth c H locs arr hC hE hW hS hL)
theorem X_ldcw {n : Nat} (v : Int32) (hw : Cond.constant μ.1.cls n v ∈ xTW) (hd : decode μ.2.1 pc = .ok (.ldc_w n, 3)) (k : X ξ μ (pc + 3) ls (.int v :: st) sh M kc ks Q) : X ξ μ pc ls st sh M kc ks Q := by
  intro l dC dI cI cZ cS B sa A p e s m args below meth c H locs arr hC hE hW hS hL
  exact lv_ldcw hC.1 hC.2.1 hC.2.2.2.2.1 (hC.2.2.2.2.2.2.2 _ hw) hd (k l dC dI cI cZ cS B sa A p e s m args below meth c H locs arr hC hE hW hS hL)
theorem X_ldc {n : Nat} (v : Int32) (hw : Cond.constant μ.1.cls n v ∈ xTW) (hd : decode μ.2.1 pc = .ok (.ldc n, 2)) (k : X ξ μ (pc + 2) ls (.int v :: st) sh M kc ks Q) : X ξ μ pc ls st sh M kc ks Q := by
  intro l dC dI cI cZ cS B sa A p e s m args below meth c H locs arr hC hE hW hS hL
  exact lv_ldc hC.1 hC.2.1 hC.2.2.2.2.1 (hC.2.2.2.2.2.2.2 _ hw) hd (k l dC dI cI cZ cS B sa A p e s m args below meth c H locs arr hC hE hW hS hL)
theorem X_iload_n {i : Fin 4} {x : Int32} (hd : decode μ.2.1 pc = .ok (.iload_n i, 1)) (hx : ls[(i : Nat)]? = some (.int x)) (k : X ξ μ (pc + 1) ls (.int x :: st) sh M kc ks Q) : X ξ μ pc ls st sh M kc ks Q := by
  intro l dC dI cI cZ cS B sa A p e s m args below meth c H locs arr hC hE hW hS hL
  exact lv_iload_n hC.1 hC.2.1 hd rfl (x_hasL_at hL hx) (k l dC dI cI cZ cS B sa A p e s m args below meth c H locs arr hC hE hW hS hL)
theorem X_iload {i : Nat} {x : Int32} (hd : decode μ.2.1 pc = .ok (.iload i, 2)) (hx : ls[i]? = some (.int x)) (k : X ξ μ (pc + 2) ls (.int x :: st) sh M kc ks Q) : X ξ μ pc ls st sh M kc ks Q := by
  intro l dC dI cI cZ cS B sa A p e s m args below meth c H locs arr hC hE hW hS hL
  exact lv_iload hC.1 hC.2.1 hd (x_hasL_at hL hx) (k l dC dI cI cZ cS B sa A p e s m args below meth c H locs arr hC hE hW hS hL)
theorem X_aload_n {i : Fin 4} {x : Nat} (hd : decode μ.2.1 pc = .ok (.aload_n i, 1)) (hx : ls[(i : Nat)]? = some (.ref x)) (k : X ξ μ (pc + 1) ls (.ref x :: st) sh M kc ks Q) : X ξ μ pc ls st sh M kc ks Q := by
  intro l dC dI cI cZ cS B sa A p e s m args below meth c H locs arr hC hE hW hS hL
  exact lv_aload_n hC.1 hC.2.1 hd rfl (x_hasL_at hL hx) (k l dC dI cI cZ cS B sa A p e s m args below meth c H locs arr hC hE hW hS hL)
theorem X_aload_nF {i : Fin 4} {x : UInt32} (hd : decode μ.2.1 pc = .ok (.aload_n i, 1)) (hx : ls[(i : Nat)]? = some (.float x)) (k : X ξ μ (pc + 1) ls (.float x :: st) sh M kc ks Q) : X ξ μ pc ls st sh M kc ks Q := by
  intro l dC dI cI cZ cS B sa A p e s m args below meth c H locs arr hC hE hW hS hL
  exact lv_aload_n hC.1 hC.2.1 hd rfl (x_hasL_at hL hx) (k l dC dI cI cZ cS B sa A p e s m args below meth c H locs arr hC hE hW hS hL)
theorem X_aload_nN {i : Fin 4} (hd : decode μ.2.1 pc = .ok (.aload_n i, 1)) (hx : ls[(i : Nat)]? = some .null) (k : X ξ μ (pc + 1) ls (.null :: st) sh M kc ks Q) : X ξ μ pc ls st sh M kc ks Q := by
  intro l dC dI cI cZ cS B sa A p e s m args below meth c H locs arr hC hE hW hS hL
  exact lv_aload_nN hC.1 hC.2.1 hd rfl (x_hasL_at hL hx) (k l dC dI cI cZ cS B sa A p e s m args below meth c H locs arr hC hE hW hS hL)
theorem X_aload {i : Nat} {x : Nat} (hd : decode μ.2.1 pc = .ok (.aload i, 2)) (hx : ls[i]? = some (.ref x)) (k : X ξ μ (pc + 2) ls (.ref x :: st) sh M kc ks Q) : X ξ μ pc ls st sh M kc ks Q := by
  intro l dC dI cI cZ cS B sa A p e s m args below meth c H locs arr hC hE hW hS hL
  exact lv_aload hC.1 hC.2.1 hd (x_hasL_at hL hx) (k l dC dI cI cZ cS B sa A p e s m args below meth c H locs arr hC hE hW hS hL)
theorem X_istore_n {i : Fin 4} {x : Int32} (ls' : List Value) (hd : decode μ.2.1 pc = .ok (.istore_n i, 1)) (hi : (i : Nat) ≤ ls.length) (hn : (i : Nat) < μ.2.2.1) (hc : ∀ u ∈ ls, u.category = 1) (hls : x_up ls i (.int x) = ls') (k : X ξ μ (pc + 1) ls' st sh M kc ks Q) : X ξ μ pc ls (.int x :: st) sh M kc ks Q := by
  intro l dC dI cI cZ cS B sa A p e s m args below meth c H locs arr hC hE hW hS hL
  subst hls
  exact lv_istore_n hC.1 hC.2.1 hd rfl hL hn rfl (fun arr' hL' => k l dC dI cI cZ cS B sa A p e s m args below meth c H locs arr' hC hE hW hS (x_hasL_up (v := .int x) hi hc hL'))
theorem X_istore {i : Nat} {x : Int32} (ls' : List Value) (hd : decode μ.2.1 pc = .ok (.istore i, 2)) (hi : (i : Nat) ≤ ls.length) (hn : (i : Nat) < μ.2.2.1) (hc : ∀ u ∈ ls, u.category = 1) (hls : x_up ls i (.int x) = ls') (k : X ξ μ (pc + 2) ls' st sh M kc ks Q) : X ξ μ pc ls (.int x :: st) sh M kc ks Q := by
  intro l dC dI cI cZ cS B sa A p e s m args below meth c H locs arr hC hE hW hS hL
  subst hls
  exact lv_istore hC.1 hC.2.1 hd hL hn rfl (fun arr' hL' => k l dC dI cI cZ cS B sa A p e s m args below meth c H locs arr' hC hE hW hS (x_hasL_up (v := .int x) hi hc hL'))
theorem X_astore_n {i : Fin 4} {x : Nat} (ls' : List Value) (hd : decode μ.2.1 pc = .ok (.astore_n i, 1)) (hi : (i : Nat) ≤ ls.length) (hn : (i : Nat) < μ.2.2.1) (hc : ∀ u ∈ ls, u.category = 1) (hls : x_up ls i (.ref x) = ls') (k : X ξ μ (pc + 1) ls' st sh M kc ks Q) : X ξ μ pc ls (.ref x :: st) sh M kc ks Q := by
  intro l dC dI cI cZ cS B sa A p e s m args below meth c H locs arr hC hE hW hS hL
  subst hls
  exact lv_astore_n hC.1 hC.2.1 hd rfl hL hn rfl (fun arr' hL' => k l dC dI cI cZ cS B sa A p e s m args below meth c H locs arr' hC hE hW hS (x_hasL_up (v := .ref x) hi hc hL'))
theorem X_astore_nN {i : Fin 4} (ls' : List Value) (hd : decode μ.2.1 pc = .ok (.astore_n i, 1)) (hi : (i : Nat) ≤ ls.length) (hn : (i : Nat) < μ.2.2.1) (hc : ∀ u ∈ ls, u.category = 1) (hls : x_up ls i .null = ls') (k : X ξ μ (pc + 1) ls' st sh M kc ks Q) : X ξ μ pc ls (.null :: st) sh M kc ks Q := by
  intro l dC dI cI cZ cS B sa A p e s m args below meth c H locs arr hC hE hW hS hL
  subst hls
  exact lv_astore_nN hC.1 hC.2.1 hd rfl hL hn rfl (fun arr' hL' => k l dC dI cI cZ cS B sa A p e s m args below meth c H locs arr' hC hE hW hS (x_hasL_up (v := .null) hi hc hL'))
theorem X_iinc {i : Nat} {n : Int} {x : Int32} (d : Int32) (ls' : List Value) (hd : decode μ.2.1 pc = .ok (.iinc i n, 3)) (hx : ls[i]? = some (.int x)) (hv : Int32.ofInt n = d) (hn : i < μ.2.2.1) (hc : ∀ u ∈ ls, u.category = 1) (hls : x_up ls i (.int (x + d)) = ls') (k : X ξ μ (pc + 3) ls' st sh M kc ks Q) : X ξ μ pc ls st sh M kc ks Q := by
  intro l dC dI cI cZ cS B sa A p e s m args below meth c H locs arr hC hE hW hS hL
  subst hls
  subst hv
  have hi : i ≤ ls.length := Nat.le_of_lt (List.getElem?_eq_some_iff.mp hx).1
  exact lv_iinc (k := i) (v := x + Int32.ofInt n) hC.1 hC.2.1 hd hL (by rw [x_ix_at (ls.map (x_g B sa)) 0 i (.int x) (by simp [hx, x_g])]; simp) rfl hn rfl (fun arr' hL' => k l dC dI cI cZ cS B sa A p e s m args below meth c H locs arr' hC hE hW hS (x_hasL_up (v := .int (x + Int32.ofInt n)) hi hc hL'))
theorem X_dup {v : Value} (hd : decode μ.2.1 pc = .ok (.dup, 1)) (hv : v.category = 1) (k : X ξ μ (pc + 1) ls (v :: v :: st) sh M kc ks Q) : X ξ μ pc ls (v :: st) sh M kc ks Q := by
  intro l dC dI cI cZ cS B sa A p e s m args below meth c H locs arr hC hE hW hS hL
  exact lv_dup hC.1 hC.2.1 hd ((x_g_cat B sa v).trans hv) (k l dC dI cI cZ cS B sa A p e s m args below meth c H locs arr hC hE hW hS hL)
theorem X_pop {v : Value} (hd : decode μ.2.1 pc = .ok (.pop, 1)) (hv : v.category = 1) (k : X ξ μ (pc + 1) ls st sh M kc ks Q) : X ξ μ pc ls (v :: st) sh M kc ks Q := by
  intro l dC dI cI cZ cS B sa A p e s m args below meth c H locs arr hC hE hW hS hL
  exact lv_pop hC.1 hC.2.1 hd ((x_g_cat B sa v).trans hv) (k l dC dI cI cZ cS B sa A p e s m args below meth c H locs arr hC hE hW hS hL)
theorem X_dup2 {v u : Value} (hd : decode μ.2.1 pc = .ok (.dup2, 1)) (hv : v.category = 1) (hu : u.category = 1) (k : X ξ μ (pc + 1) ls (v :: u :: v :: u :: st) sh M kc ks Q) : X ξ μ pc ls (v :: u :: st) sh M kc ks Q := by
  intro l dC dI cI cZ cS B sa A p e s m args below meth c H locs arr hC hE hW hS hL
  exact lv_dup2_11 hC.1 hC.2.1 hd ((x_g_cat B sa v).trans hv) ((x_g_cat B sa u).trans hu) (k l dC dI cI cZ cS B sa A p e s m args below meth c H locs arr hC hE hW hS hL)
def xl {α β : Type} (x : α) (f : α → β) : β := f x
def xgd {α : Type} (b : Bool) (a : Option α) : Option α := if b = true then a else none
def xin (i : Int32) (n : Nat) : Bool := !decide (i < 0) && decide (i.toNatClampNeg < n)
theorem xin_vp {i : Int32} {n : Nat} (h : xin i n = true) : vp_in i n := by
  simp only [xin, Bool.and_eq_true, Bool.not_eq_true', decide_eq_false_iff_not, decide_eq_true_eq] at h
  rintro (q | q)
  · exact h.1 q
  · omega
theorem xgd_some {α : Type} {b : Bool} {a : Option α} {z : α} (h : xgd b a = some z) : b = true ∧ a = some z := by
  unfold xgd at h
  split at h
  · exact ⟨‹_›, h⟩
  · cases h
def xr (r : Option Value) (sh : List xS) (M : xM) : Option Value → List xS → xM → Prop := fun a b c => a = r ∧ b = sh ∧ c = M
variable {α β : Type} {z : α}
theorem X_if_eq {x : Int32} {off : Int} (tgt : Nat) {a b : Option α} (hd : decode μ.2.1 pc = .ok (.ifCond .eq off, 3)) (ht : (pc : Int) + off = (tgt : Int)) (h : (if x = 0 then a else b) = some z) (kt : a = some z → X ξ μ tgt ls st sh M kc ks Q) (kf : b = some z → X ξ μ (pc + 3) ls st sh M kc ks Q) : X ξ μ pc ls (.int x :: st) sh M kc ks Q := by
  intro l dC dI cI cZ cS B sa A p e s m args below meth c H locs arr hC hE hW hS hL
  refine lv_if_eq (tgt := tgt) hC.1 hC.2.1 hd ht (fun hc => ?_) (fun hc => ?_)
  · rw [if_pos hc] at h
    exact kt h l dC dI cI cZ cS B sa A p e s m args below meth c H locs arr hC hE hW hS hL
  · rw [if_neg hc] at h
    exact kf h l dC dI cI cZ cS B sa A p e s m args below meth c H locs arr hC hE hW hS hL
theorem X_icmp_eq {x y : Int32} {off : Int} (tgt : Nat) {a b : Option α} (hd : decode μ.2.1 pc = .ok (.if_icmp .eq off, 3)) (ht : (pc : Int) + off = (tgt : Int)) (h : (if x = y then a else b) = some z) (kt : a = some z → X ξ μ tgt ls st sh M kc ks Q) (kf : b = some z → X ξ μ (pc + 3) ls st sh M kc ks Q) : X ξ μ pc ls (.int y :: .int x :: st) sh M kc ks Q := by
  intro l dC dI cI cZ cS B sa A p e s m args below meth c H locs arr hC hE hW hS hL
  refine lv_icmp_eq (tgt := tgt) hC.1 hC.2.1 hd ht (fun hc => ?_) (fun hc => ?_)
  · rw [if_pos hc] at h
    exact kt h l dC dI cI cZ cS B sa A p e s m args below meth c H locs arr hC hE hW hS hL
  · rw [if_neg hc] at h
    exact kf h l dC dI cI cZ cS B sa A p e s m args below meth c H locs arr hC hE hW hS hL
theorem X_if_ne {x : Int32} {off : Int} (tgt : Nat) {a b : Option α} (hd : decode μ.2.1 pc = .ok (.ifCond .ne off, 3)) (ht : (pc : Int) + off = (tgt : Int)) (h : (if x = 0 then b else a) = some z) (kt : a = some z → X ξ μ tgt ls st sh M kc ks Q) (kf : b = some z → X ξ μ (pc + 3) ls st sh M kc ks Q) : X ξ μ pc ls (.int x :: st) sh M kc ks Q := by
  intro l dC dI cI cZ cS B sa A p e s m args below meth c H locs arr hC hE hW hS hL
  refine lv_if_ne (tgt := tgt) hC.1 hC.2.1 hd ht (fun hc => ?_) (fun hc => ?_)
  · rw [if_neg hc] at h
    exact kt h l dC dI cI cZ cS B sa A p e s m args below meth c H locs arr hC hE hW hS hL
  · rw [if_pos hc] at h
    exact kf h l dC dI cI cZ cS B sa A p e s m args below meth c H locs arr hC hE hW hS hL
theorem X_icmp_ne {x y : Int32} {off : Int} (tgt : Nat) {a b : Option α} (hd : decode μ.2.1 pc = .ok (.if_icmp .ne off, 3)) (ht : (pc : Int) + off = (tgt : Int)) (h : (if x = y then b else a) = some z) (kt : a = some z → X ξ μ tgt ls st sh M kc ks Q) (kf : b = some z → X ξ μ (pc + 3) ls st sh M kc ks Q) : X ξ μ pc ls (.int y :: .int x :: st) sh M kc ks Q := by
  intro l dC dI cI cZ cS B sa A p e s m args below meth c H locs arr hC hE hW hS hL
  refine lv_icmp_ne (tgt := tgt) hC.1 hC.2.1 hd ht (fun hc => ?_) (fun hc => ?_)
  · rw [if_neg hc] at h
    exact kt h l dC dI cI cZ cS B sa A p e s m args below meth c H locs arr hC hE hW hS hL
  · rw [if_pos hc] at h
    exact kf h l dC dI cI cZ cS B sa A p e s m args below meth c H locs arr hC hE hW hS hL
theorem X_if_lt {x : Int32} {off : Int} (tgt : Nat) {a b : Option α} (hd : decode μ.2.1 pc = .ok (.ifCond .lt off, 3)) (ht : (pc : Int) + off = (tgt : Int)) (h : (if x < 0 then a else b) = some z) (kt : a = some z → X ξ μ tgt ls st sh M kc ks Q) (kf : b = some z → X ξ μ (pc + 3) ls st sh M kc ks Q) : X ξ μ pc ls (.int x :: st) sh M kc ks Q := by
  intro l dC dI cI cZ cS B sa A p e s m args below meth c H locs arr hC hE hW hS hL
  refine lv_if_lt (tgt := tgt) hC.1 hC.2.1 hd ht (fun hc => ?_) (fun hc => ?_)
  · rw [if_pos hc] at h
    exact kt h l dC dI cI cZ cS B sa A p e s m args below meth c H locs arr hC hE hW hS hL
  · rw [if_neg hc] at h
    exact kf h l dC dI cI cZ cS B sa A p e s m args below meth c H locs arr hC hE hW hS hL
theorem X_icmp_lt {x y : Int32} {off : Int} (tgt : Nat) {a b : Option α} (hd : decode μ.2.1 pc = .ok (.if_icmp .lt off, 3)) (ht : (pc : Int) + off = (tgt : Int)) (h : (if x < y then a else b) = some z) (kt : a = some z → X ξ μ tgt ls st sh M kc ks Q) (kf : b = some z → X ξ μ (pc + 3) ls st sh M kc ks Q) : X ξ μ pc ls (.int y :: .int x :: st) sh M kc ks Q := by
  intro l dC dI cI cZ cS B sa A p e s m args below meth c H locs arr hC hE hW hS hL
  refine lv_icmp_lt (tgt := tgt) hC.1 hC.2.1 hd ht (fun hc => ?_) (fun hc => ?_)
  · rw [if_pos hc] at h
    exact kt h l dC dI cI cZ cS B sa A p e s m args below meth c H locs arr hC hE hW hS hL
  · rw [if_neg hc] at h
    exact kf h l dC dI cI cZ cS B sa A p e s m args below meth c H locs arr hC hE hW hS hL
theorem X_if_ge {x : Int32} {off : Int} (tgt : Nat) {a b : Option α} (hd : decode μ.2.1 pc = .ok (.ifCond .ge off, 3)) (ht : (pc : Int) + off = (tgt : Int)) (h : (if 0 ≤ x then a else b) = some z) (kt : a = some z → X ξ μ tgt ls st sh M kc ks Q) (kf : b = some z → X ξ μ (pc + 3) ls st sh M kc ks Q) : X ξ μ pc ls (.int x :: st) sh M kc ks Q := by
  intro l dC dI cI cZ cS B sa A p e s m args below meth c H locs arr hC hE hW hS hL
  refine lv_if_ge (tgt := tgt) hC.1 hC.2.1 hd ht (fun hc => ?_) (fun hc => ?_)
  · rw [if_pos hc] at h
    exact kt h l dC dI cI cZ cS B sa A p e s m args below meth c H locs arr hC hE hW hS hL
  · rw [if_neg hc] at h
    exact kf h l dC dI cI cZ cS B sa A p e s m args below meth c H locs arr hC hE hW hS hL
theorem X_icmp_ge {x y : Int32} {off : Int} (tgt : Nat) {a b : Option α} (hd : decode μ.2.1 pc = .ok (.if_icmp .ge off, 3)) (ht : (pc : Int) + off = (tgt : Int)) (h : (if y ≤ x then a else b) = some z) (kt : a = some z → X ξ μ tgt ls st sh M kc ks Q) (kf : b = some z → X ξ μ (pc + 3) ls st sh M kc ks Q) : X ξ μ pc ls (.int y :: .int x :: st) sh M kc ks Q := by
  intro l dC dI cI cZ cS B sa A p e s m args below meth c H locs arr hC hE hW hS hL
  refine lv_icmp_ge (tgt := tgt) hC.1 hC.2.1 hd ht (fun hc => ?_) (fun hc => ?_)
  · rw [if_pos hc] at h
    exact kt h l dC dI cI cZ cS B sa A p e s m args below meth c H locs arr hC hE hW hS hL
  · rw [if_neg hc] at h
    exact kf h l dC dI cI cZ cS B sa A p e s m args below meth c H locs arr hC hE hW hS hL
theorem X_if_gt {x : Int32} {off : Int} (tgt : Nat) {a b : Option α} (hd : decode μ.2.1 pc = .ok (.ifCond .gt off, 3)) (ht : (pc : Int) + off = (tgt : Int)) (h : (if 0 < x then a else b) = some z) (kt : a = some z → X ξ μ tgt ls st sh M kc ks Q) (kf : b = some z → X ξ μ (pc + 3) ls st sh M kc ks Q) : X ξ μ pc ls (.int x :: st) sh M kc ks Q := by
  intro l dC dI cI cZ cS B sa A p e s m args below meth c H locs arr hC hE hW hS hL
  refine lv_if_gt (tgt := tgt) hC.1 hC.2.1 hd ht (fun hc => ?_) (fun hc => ?_)
  · rw [if_pos hc] at h
    exact kt h l dC dI cI cZ cS B sa A p e s m args below meth c H locs arr hC hE hW hS hL
  · rw [if_neg hc] at h
    exact kf h l dC dI cI cZ cS B sa A p e s m args below meth c H locs arr hC hE hW hS hL
theorem X_icmp_gt {x y : Int32} {off : Int} (tgt : Nat) {a b : Option α} (hd : decode μ.2.1 pc = .ok (.if_icmp .gt off, 3)) (ht : (pc : Int) + off = (tgt : Int)) (h : (if y < x then a else b) = some z) (kt : a = some z → X ξ μ tgt ls st sh M kc ks Q) (kf : b = some z → X ξ μ (pc + 3) ls st sh M kc ks Q) : X ξ μ pc ls (.int y :: .int x :: st) sh M kc ks Q := by
  intro l dC dI cI cZ cS B sa A p e s m args below meth c H locs arr hC hE hW hS hL
  refine lv_icmp_gt (tgt := tgt) hC.1 hC.2.1 hd ht (fun hc => ?_) (fun hc => ?_)
  · rw [if_pos hc] at h
    exact kt h l dC dI cI cZ cS B sa A p e s m args below meth c H locs arr hC hE hW hS hL
  · rw [if_neg hc] at h
    exact kf h l dC dI cI cZ cS B sa A p e s m args below meth c H locs arr hC hE hW hS hL
theorem X_if_le {x : Int32} {off : Int} (tgt : Nat) {a b : Option α} (hd : decode μ.2.1 pc = .ok (.ifCond .le off, 3)) (ht : (pc : Int) + off = (tgt : Int)) (h : (if x ≤ 0 then a else b) = some z) (kt : a = some z → X ξ μ tgt ls st sh M kc ks Q) (kf : b = some z → X ξ μ (pc + 3) ls st sh M kc ks Q) : X ξ μ pc ls (.int x :: st) sh M kc ks Q := by
  intro l dC dI cI cZ cS B sa A p e s m args below meth c H locs arr hC hE hW hS hL
  refine lv_if_le (tgt := tgt) hC.1 hC.2.1 hd ht (fun hc => ?_) (fun hc => ?_)
  · rw [if_pos hc] at h
    exact kt h l dC dI cI cZ cS B sa A p e s m args below meth c H locs arr hC hE hW hS hL
  · rw [if_neg hc] at h
    exact kf h l dC dI cI cZ cS B sa A p e s m args below meth c H locs arr hC hE hW hS hL
theorem X_icmp_le {x y : Int32} {off : Int} (tgt : Nat) {a b : Option α} (hd : decode μ.2.1 pc = .ok (.if_icmp .le off, 3)) (ht : (pc : Int) + off = (tgt : Int)) (h : (if x ≤ y then a else b) = some z) (kt : a = some z → X ξ μ tgt ls st sh M kc ks Q) (kf : b = some z → X ξ μ (pc + 3) ls st sh M kc ks Q) : X ξ μ pc ls (.int y :: .int x :: st) sh M kc ks Q := by
  intro l dC dI cI cZ cS B sa A p e s m args below meth c H locs arr hC hE hW hS hL
  refine lv_icmp_le (tgt := tgt) hC.1 hC.2.1 hd ht (fun hc => ?_) (fun hc => ?_)
  · rw [if_pos hc] at h
    exact kt h l dC dI cI cZ cS B sa A p e s m args below meth c H locs arr hC hE hW hS hL
  · rw [if_neg hc] at h
    exact kf h l dC dI cI cZ cS B sa A p e s m args below meth c H locs arr hC hE hW hS hL
theorem X_goto {off : Int} (tgt : Nat) (hd : decode μ.2.1 pc = .ok (.goto off, 3)) (ht : (pc : Int) + off = (tgt : Int)) (k : X ξ μ tgt ls st sh M kc ks Q) : X ξ μ pc ls st sh M kc ks Q := by
  intro l dC dI cI cZ cS B sa A p e s m args below meth c H locs arr hC hE hW hS hL
  exact lv_goto (tgt := tgt) hC.1 hC.2.1 hd ht (k l dC dI cI cZ cS B sa A p e s m args below meth c H locs arr hC hE hW hS hL)
theorem X_ifnonnull {x : Nat} {off : Int} (tgt : Nat) (hd : decode μ.2.1 pc = .ok (.ifnonnull off, 3)) (ht : (pc : Int) + off = (tgt : Int)) (k : X ξ μ tgt ls st sh M kc ks Q) : X ξ μ pc ls (.ref x :: st) sh M kc ks Q := by
  intro l dC dI cI cZ cS B sa A p e s m args below meth c H locs arr hC hE hW hS hL
  exact lv_ifnonnull (tgt := tgt) hC.1 hC.2.1 hd ht (k l dC dI cI cZ cS B sa A p e s m args below meth c H locs arr hC hE hW hS hL)
theorem X_ifnonnullN {off : Int} (hd : decode μ.2.1 pc = .ok (.ifnonnull off, 3)) (k : X ξ μ (pc + 3) ls st sh M kc ks Q) : X ξ μ pc ls (.null :: st) sh M kc ks Q := by
  intro l dC dI cI cZ cS B sa A p e s m args below meth c H locs arr hC hE hW hS hL
  exact lv_ifnonnullN hC.1 hC.2.1 hd (k l dC dI cI cZ cS B sa A p e s m args below meth c H locs arr hC hE hW hS hL)
theorem X_ifnull {x : Nat} {off : Int} (hd : decode μ.2.1 pc = .ok (.ifnull off, 3)) (k : X ξ μ (pc + 3) ls st sh M kc ks Q) : X ξ μ pc ls (.ref x :: st) sh M kc ks Q := by
  intro l dC dI cI cZ cS B sa A p e s m args below meth c H locs arr hC hE hW hS hL
  exact lv_ifnull hC.1 hC.2.1 hd (k l dC dI cI cZ cS B sa A p e s m args below meth c H locs arr hC hE hW hS hL)
theorem X_ifnullN {off : Int} (tgt : Nat) (hd : decode μ.2.1 pc = .ok (.ifnull off, 3)) (ht : (pc : Int) + off = (tgt : Int)) (k : X ξ μ tgt ls st sh M kc ks Q) : X ξ μ pc ls (.null :: st) sh M kc ks Q := by
  intro l dC dI cI cZ cS B sa A p e s m args below meth c H locs arr hC hE hW hS hL
  exact lv_ifnullN (tgt := tgt) hC.1 hC.2.1 hd ht (k l dC dI cI cZ cS B sa A p e s m args below meth c H locs arr hC hE hW hS hL)
theorem X_null (hd : decode μ.2.1 pc = .ok (.aconst_null, 1)) (k : X ξ μ (pc + 1) ls (.null :: st) sh M kc ks Q) : X ξ μ pc ls st sh M kc ks Q := by
  intro l dC dI cI cZ cS B sa A p e s m args below meth c H locs arr hC hE hW hS hL
  exact lv_null hC.1 hC.2.1 hd (k l dC dI cI cZ cS B sa A p e s m args below meth c H locs arr hC hE hW hS hL)
theorem X_let {x : β} {g : β → Option α} (h : xl x g = some z) (k : ∀ y : β, g y = some z → X ξ μ pc ls st sh M kc ks Q) : X ξ μ pc ls st sh M kc ks Q := k x h
theorem X_istoreL_n {i : Fin 4} {x : Int32} {g : Int32 → Option α} (ls' : Int32 → List Value) (hd : decode μ.2.1 pc = .ok (.istore_n i, 1)) (hi : (i : Nat) ≤ ls.length) (hn : (i : Nat) < μ.2.2.1) (hc : ∀ u ∈ ls, u.category = 1) (h : xl x g = some z) (hls : ∀ y, x_up ls i (.int y) = ls' y) (k : ∀ y : Int32, g y = some z → X ξ μ (pc + 1) (ls' y) st sh M kc ks Q) : X ξ μ pc ls (.int x :: st) sh M kc ks Q := X_istore_n (ls' x) hd hi hn hc (hls x) (k x h)
theorem X_istoreL {i : Nat} {x : Int32} {g : Int32 → Option α} (ls' : Int32 → List Value) (hd : decode μ.2.1 pc = .ok (.istore i, 2)) (hi : (i : Nat) ≤ ls.length) (hn : (i : Nat) < μ.2.2.1) (hc : ∀ u ∈ ls, u.category = 1) (h : xl x g = some z) (hls : ∀ y, x_up ls i (.int y) = ls' y) (k : ∀ y : Int32, g y = some z → X ξ μ (pc + 2) (ls' y) st sh M kc ks Q) : X ξ μ pc ls (.int x :: st) sh M kc ks Q := X_istore (ls' x) hd hi hn hc (hls x) (k x h)
theorem X_iincL {i : Nat} {n : Int} {x : Int32} {g : Int32 → Option α} (d : Int32) (ls' : Int32 → List Value) (hd : decode μ.2.1 pc = .ok (.iinc i n, 3)) (hx : ls[i]? = some (.int x)) (hv : Int32.ofInt n = d) (hn : i < μ.2.2.1) (hc : ∀ u ∈ ls, u.category = 1) (h : xl (x + d) g = some z) (hls : ∀ y, x_up ls i (.int y) = ls' y) (k : ∀ y : Int32, g y = some z → X ξ μ (pc + 3) (ls' y) st sh M kc ks Q) : X ξ μ pc ls st sh M kc ks Q := X_iinc d (ls' (x + d)) hd hx hv hn hc (hls (x + d)) (k (x + d) h)
theorem X_ireturn {v : Int32} (hd : decode μ.2.1 pc = .ok (.ireturn, 1)) (hrt : ∃ ty, μ.2.2.2.1 = some ty ∧ narrow ty (.int v) = .int v) (hk1 : kc ≤ μ.2.2.2.2.2.2.1) (hk2 : ks ≤ μ.2.2.2.2.2.2.2) (hq : Q (some (.int v)) sh M) : X ξ μ pc ls [.int v] sh M kc ks Q := by
  intro l dC dI cI cZ cS B sa A p e s m args below meth c H locs arr hC hE hW hS hL
  refine W.widen hk1 hk2 ?_
  obtain ⟨ty, h1, h2⟩ := hrt
  have hlk : meth.locks = false := hC.2.2.2.2.2.1
  exact W.zret (v := v) (ty := ty) hC.1 hC.2.1 (by rw [hC.2.2.1, h1]) h2 (fun t ht hWm => ⟨⟨some (.int v), sh, M, rfl, hq, va_K.moved hWm.alike hW.1, by rw [ht]; exact hW.2.1, hW.2.2.1, by rw [ht]; exact hW.2.2.2⟩, hS.F ht⟩) hS.2.2 hd
theorem X_return (hd : decode μ.2.1 pc = .ok (.return_, 1)) (hrt : μ.2.2.2.1 = none) (hk1 : kc ≤ μ.2.2.2.2.2.2.1) (hk2 : ks ≤ μ.2.2.2.2.2.2.2) (hq : Q none sh M) : X ξ μ pc ls [] sh M kc ks Q := by
  intro l dC dI cI cZ cS B sa A p e s m args below meth c H locs arr hC hE hW hS hL
  refine W.widen hk1 hk2 ?_
  have hlk : meth.locks = false := hC.2.2.2.2.2.1
  exact W.vret hC.1 hC.2.1 (by rw [hC.2.2.1, hrt]) (fun t ht hWm => ⟨⟨none, sh, M, rfl, hq, va_K.moved hWm.alike hW.1, by rw [ht]; exact hW.2.1, hW.2.2.1, by rw [ht]; exact hW.2.2.2⟩, hS.F ht⟩) hS.2.2 hd
theorem X_areturn {r : Option Nat} (hd : decode μ.2.1 pc = .ok (.areturn, 1)) (hrt : ∃ n, μ.2.2.2.1 = some (.object n)) (hk1 : kc ≤ μ.2.2.2.2.2.2.1) (hk2 : ks ≤ μ.2.2.2.2.2.2.2) (hq : Q (some (va_rf r)) sh M) : X ξ μ pc ls [va_rf r] sh M kc ks Q := by
  intro l dC dI cI cZ cS B sa A p e s m args below meth c H locs arr hC hE hW hS hL
  refine W.widen hk1 hk2 ?_
  obtain ⟨n, hrt⟩ := hrt
  have hlk : meth.locks = false := hC.2.2.2.2.2.1
  exact W.aret (v := x_g B sa (va_rf r)) (rt := .object n) hC.1 hC.2.1 (by rw [hC.2.2.1, hrt]) (Or.inl ⟨n, rfl⟩) (by rw [x_g_rf]; cases r; exact Or.inl rfl; exact Or.inr ⟨_, rfl⟩) (fun t ht hWm => ⟨⟨some (va_rf r), sh, M, rfl, hq, va_K.moved hWm.alike hW.1, by rw [ht]; exact hW.2.1, hW.2.2.1, by rw [ht]; exact hW.2.2.2⟩, hS.F ht⟩) hS.2.2 hd
theorem X_retP {v z : Int32} (hd : decode μ.2.1 pc = .ok (.ireturn, 1)) (hrt : μ.2.2.2.1 = some .int) (hk1 : kc ≤ μ.2.2.2.2.2.2.1) (hk2 : ks ≤ μ.2.2.2.2.2.2.2) (h : some v = some z) : X ξ μ pc ls [.int v] sh M kc ks (xr (some (.int z)) sh M) := by
  cases h
  exact X_ireturn hd ⟨_, hrt, rfl⟩ hk1 hk2 ⟨rfl, rfl, rfl⟩
theorem X_retI {v : Int32} {z : Int32 × xM} (hd : decode μ.2.1 pc = .ok (.ireturn, 1)) (hrt : μ.2.2.2.1 = some .int) (hk1 : kc ≤ μ.2.2.2.2.2.2.1) (hk2 : ks ≤ μ.2.2.2.2.2.2.2) (h : some (v, M) = some z) : X ξ μ pc ls [.int v] sh M kc ks (xr (some (.int z.1)) sh z.2) := by
  cases h
  exact X_ireturn hd ⟨_, hrt, rfl⟩ hk1 hk2 ⟨rfl, rfl, rfl⟩
def xz (v : Int32) : Bool := decide (v &&& 1 = v)
theorem xz_nar {v : Int32} (h : xz v = true) : narrow .boolean (.int v) = .int v := by
  have h := of_decide_eq_true h
  show Value.int (v &&& 1) = Value.int v
  rw [h]
theorem X_retZ {v z : Int32} (hd : decode μ.2.1 pc = .ok (.ireturn, 1)) (hrt : μ.2.2.2.1 = some .boolean) (hk1 : kc ≤ μ.2.2.2.2.2.2.1) (hk2 : ks ≤ μ.2.2.2.2.2.2.2) (h : xgd (xz v) (some v) = some z) : X ξ μ pc ls [.int v] sh M kc ks (xr (some (.int z)) sh M) := by
  obtain ⟨h1, h⟩ := xgd_some h
  cases h
  exact X_ireturn hd ⟨_, hrt, xz_nar h1⟩ hk1 hk2 ⟨rfl, rfl, rfl⟩
theorem X_retZI {v : Int32} {z : Int32 × xM} (hd : decode μ.2.1 pc = .ok (.ireturn, 1)) (hrt : μ.2.2.2.1 = some .boolean) (hk1 : kc ≤ μ.2.2.2.2.2.2.1) (hk2 : ks ≤ μ.2.2.2.2.2.2.2) (h : xgd (xz v) (some (v, M)) = some z) : X ξ μ pc ls [.int v] sh M kc ks (xr (some (.int z.1)) sh z.2) := by
  obtain ⟨h1, h⟩ := xgd_some h
  cases h
  exact X_ireturn hd ⟨_, hrt, xz_nar h1⟩ hk1 hk2 ⟨rfl, rfl, rfl⟩
theorem X_retV {z : xM} (hd : decode μ.2.1 pc = .ok (.return_, 1)) (hrt : μ.2.2.2.1 = none) (hk1 : kc ≤ μ.2.2.2.2.2.2.1) (hk2 : ks ≤ μ.2.2.2.2.2.2.2) (h : some M = some z) : X ξ μ pc ls [] sh M kc ks (xr none sh z) := by
  cases h
  exact X_return hd hrt hk1 hk2 ⟨rfl, rfl, rfl⟩

theorem X_idivG {x y : Int32} {a : Option α} (hd : decode μ.2.1 pc = .ok (.idiv, 1)) (h : (if y = 0 then none else a) = some z) (k : a = some z → X ξ μ (pc + 1) ls (.int (x / y) :: st) sh M kc ks Q) : X ξ μ pc ls (.int y :: .int x :: st) sh M kc ks Q := by
  by_cases hy : y = 0
  · rw [if_pos hy] at h; cases h
  · rw [if_neg hy] at h; exact X_idiv hy hd (k h)
theorem X_iremG {x y : Int32} {a : Option α} (hd : decode μ.2.1 pc = .ok (.irem, 1)) (h : (if y = 0 then none else a) = some z) (k : a = some z → X ξ μ (pc + 1) ls (.int (x - x / y * y) :: st) sh M kc ks Q) : X ξ μ pc ls (.int y :: .int x :: st) sh M kc ks Q := by
  by_cases hy : y = 0
  · rw [if_pos hy] at h; cases h
  · rw [if_neg hy] at h; exact X_irem hy hd (k h)
end XR
