section XM
variable {ξ : xX} {μ μ' : xD} {pc : Nat} {ls st : List Value} {sh : List xS} {M : xM} {kc ks : Nat} {Q : Option Value → List xS → xM → Prop} {α β : Type} {z : α}
def xF (own : String) (idx ci j : Nat) (ty : FieldType) (fin nest : Bool) : Prop := ∃ (C : String) (T : u_T) (N : Nat) (ty0 : Nat → FieldType) (host : String), vwCl[ci]? = some (C, T, N) ∧ j < N ∧ (∀ w ∈ u_ws C T N, w ∈ xTW) ∧ (∀ k, k < N → parseFieldDescriptor (T k).2.2.1 = some (ty0 k)) ∧ (∀ a, a < N → ∀ b, b < N → a ≠ b → (T a).2.1 ≠ (T b).2.1) ∧ (T j).2.2.2 = fin ∧ parseFieldDescriptor (T j).2.2.1 = some ty ∧ (T j).1 = C ∧ ((nest = false ∧ Cond.fieldLink own idx (T j).1 (T j).2.1 (T j).2.2.1 ∈ xTW) ∨ (nest = true ∧ Cond.fieldLinkNest own idx (T j).1 (T j).2.1 (T j).2.2.1 host ∈ lw_tbl))
theorem X_get {k0 idx ci j : Nat} {ty : FieldType} {fin nest : Bool} {fs : List (Option (Option Nat))} {o : Option (Option Nat)} {v : Value} (hF : xF μ.1.cls idx ci j ty fin nest) (hsh : sh[k0]? = some (.inr (ci, fs))) (hf : fs[j]? = some o) (hv : (match o with | none => .int (M k0 j) | some r => va_rf r) = v) (hd : decode μ.2.1 pc = .ok (.getfield idx, 3)) (k : X ξ μ (pc + 3) ls (v :: st) sh M kc ks Q) : X ξ μ pc ls (.ref k0 :: st) sh M kc ks Q := by
  intro l dC dI cI cZ cS B sa A p e s m args below meth c H locs arr hC hE hW hS hL
  obtain ⟨C, T, N, ty0, host, h1, h2, h3, h4, h5, h6, h7, h8, h9⟩ := hF
  have he := x_ws_at (cI := cI) (cZ := cZ) (cS := cS) (B := B) (M := M) hsh
  have hg : (fs.mapIdx (x_val B (M k0)))[j]? = some (x_g B sa v) := by
    subst hv
    simp only [List.getElem?_mapIdx, hf, Option.map_some]
    cases o with
    | none => rfl
    | some r => simp only [x_val, x_g_rf]
  rcases h9 with ⟨-, h9⟩ | ⟨-, h9⟩
  · exact va_get hC.1 hC.2.1 hC.2.2.2.2.2.2.2 h3 hC.2.2.2.2.1 hW.1 hW.2.1 k0 he h1 j h2 (hC.2.2.2.2.2.2.2 _ h9) (fun _ h => h) hg hd (k l dC dI cI cZ cS B sa A p e s m args below meth c H locs arr hC hE hW hS hL)
  · exact va_getN hC.1 hC.2.1 hC.2.2.2.2.2.2.2 h3 hC.2.2.2.2.1 hW.1 hW.2.1 k0 he h1 j h2 (va_Nw.use rfl (hE.1 _ h9 rfl)) (fun _ h => h) hg hd (k l dC dI cI cZ cS B sa A p e s m args below meth c H locs arr hC hE hW hS hL)
theorem X_putI {k0 idx ci j : Nat} {ty : FieldType} {nest : Bool} {fs : List (Option (Option Nat))} {v : Int32} {g : xM → Option α} (hF : xF μ.1.cls idx ci j ty false nest) (hsh : sh[k0]? = some (.inr (ci, fs))) (hf : fs[j]? = some none) (hn : narrow ty (.int v) = .int v) (hfit : fits ty (.int v) = true) (hd : decode μ.2.1 pc = .ok (.putfield idx, 3)) (h : xl (xw M k0 j v) g = some z) (k : ∀ M1 : xM, g M1 = some z → X ξ μ (pc + 3) ls st sh M1 kc ks Q) : X ξ μ pc ls (.int v :: .ref k0 :: st) sh M kc ks Q := by
  intro l dC dI cI cZ cS B sa A p e s m args below meth c H locs arr hC hE hW hS hL
  obtain ⟨C, T, N, ty0, host, h1, h2, h3, h4, h5, h6, h7, h8, h9⟩ := hF
  have he := x_ws_at (cI := cI) (cZ := cZ) (cS := cS) (B := B) (M := M) hsh
  have hl : j < (fs.mapIdx (x_val B (M k0))).length := by simpa using (List.getElem?_eq_some_iff.mp hf).1
  have e1 : (x_ws cI cZ cS B sh M).set k0 (B + k0, .inr (ci, (fs.mapIdx (x_val B (M k0))).set j (.int v))) = x_ws cI cZ cS B sh (xw M k0 j v) := x_ws_set hsh (fun i hi => xw_ne hi) (by rw [xw_upd]; show (Sum.inr (ci, _) : va_E) = _; rw [x_obj_set hf])
  rcases h9 with ⟨-, h9⟩ | ⟨-, h9⟩
  · refine x_put hC.1 hC.2.1 hC.2.2.2.2.2.2.2 h3 ty0 h4 h5 hC.2.2.2.2.1 hW.1 hW.2.1 hW.2.2.1 hS k0 he h1 j h2 (hC.2.2.2.2.2.2.2 _ h9) (fun _ h => h) h6 h7 hn hfit hl hd (fun H1 locs1 hz hP hD hS1 => ?_)
    have hP : va_P (dC, dI) vwCl (x_ws cI cZ cS B sh (xw M k0 j v)) H1 := by rw [← e1]; exact hP
    have hD : va_D A (x_ws cI cZ cS B sh (xw M k0 j v)) := by rw [← e1]; exact hD
    exact k (xw M k0 j v) h l dC dI cI cZ cS B sa A p e s m args below meth c H1 locs1 arr hC hE ⟨hW.1, hP, hD, hz.trans hW.2.2.2⟩ hS1 hL
  · refine x_putN hC.1 hC.2.1 hC.2.2.2.2.2.2.2 h3 ty0 h4 h5 hC.2.2.2.2.1 hW.1 hW.2.1 hW.2.2.1 hS k0 he h1 j h2 (va_Nw.use rfl (hE.1 _ h9 rfl)) (fun _ h => h) h6 h7 hn hfit hl hd (fun H1 locs1 hz hP hD hS1 => ?_)
    have hP : va_P (dC, dI) vwCl (x_ws cI cZ cS B sh (xw M k0 j v)) H1 := by rw [← e1]; exact hP
    have hD : va_D A (x_ws cI cZ cS B sh (xw M k0 j v)) := by rw [← e1]; exact hD
    exact k (xw M k0 j v) h l dC dI cI cZ cS B sa A p e s m args below meth c H1 locs1 arr hC hE ⟨hW.1, hP, hD, hz.trans hW.2.2.2⟩ hS1 hL
/-- a final field of numbers, in a constructor -/
theorem X_putFI {k0 idx ci j : Nat} {ty : FieldType} {fs : List (Option (Option Nat))} {v : Int32} {g : xM → Option α} (hF : xF μ.1.cls idx ci j ty true false) (hin : μ.1.name = "<init>") (hC0 : ∀ q, vwCl[ci]? = some q → q.1 = μ.1.cls) (hsh : sh[k0]? = some (.inr (ci, fs))) (hf : fs[j]? = some none) (hn : narrow ty (.int v) = .int v) (hfit : fits ty (.int v) = true) (hd : decode μ.2.1 pc = .ok (.putfield idx, 3)) (h : xl (xw M k0 j v) g = some z) (k : ∀ M1 : xM, g M1 = some z → X ξ μ (pc + 3) ls st sh M1 kc ks Q) : X ξ μ pc ls (.int v :: .ref k0 :: st) sh M kc ks Q := by
  intro l dC dI cI cZ cS B sa A p e s m args below meth c H locs arr hC hE hW hS hL
  obtain ⟨C, T, N, ty0, host, h1, h2, h3, h4, h5, h6, h7, h8, h9⟩ := hF
  have he := x_ws_at (cI := cI) (cZ := cZ) (cS := cS) (B := B) (M := M) hsh
  have hl : j < (fs.mapIdx (x_val B (M k0))).length := by simpa using (List.getElem?_eq_some_iff.mp hf).1
  have e1 : (x_ws cI cZ cS B sh M).set k0 (B + k0, .inr (ci, (fs.mapIdx (x_val B (M k0))).set j (.int v))) = x_ws cI cZ cS B sh (xw M k0 j v) := x_ws_set hsh (fun i hi => xw_ne hi) (by rw [xw_upd]; show (Sum.inr (ci, _) : va_E) = _; rw [x_obj_set hf])
  rcases h9 with ⟨-, h9⟩ | ⟨h0, -⟩
  · refine x_putF hC.1 hC.2.1 hC.2.2.2.2.2.2.2 h3 ty0 h4 h5 hC.2.2.2.2.1 hW.1 hW.2.1 hW.2.2.1 hS k0 he h1 j h2 (hC.2.2.2.2.2.2.2 _ h9) (fun _ h => h) h6 (hC.2.2.2.2.2.2.1.trans hin) (h8.trans (hC0 _ h1)) h7 hn hfit hl hd (fun H1 locs1 hz hP hD hS1 => ?_)
    have hP : va_P (dC, dI) vwCl (x_ws cI cZ cS B sh (xw M k0 j v)) H1 := by rw [← e1]; exact hP
    have hD : va_D A (x_ws cI cZ cS B sh (xw M k0 j v)) := by rw [← e1]; exact hD
    exact k (xw M k0 j v) h l dC dI cI cZ cS B sa A p e s m args below meth c H1 locs1 arr hC hE ⟨hW.1, hP, hD, hz.trans hW.2.2.2⟩ hS1 hL
  · cases h0
/-- a final field that refers, in a constructor: the shape is told -/
theorem X_putFR {k0 idx ci j : Nat} {ty : FieldType} {fs : List (Option (Option Nat))} {o : Option (Option Nat)} {q : Nat} (sh' : List xS) (hF : xF μ.1.cls idx ci j ty true false) (hin : μ.1.name = "<init>") (hC0 : ∀ q, vwCl[ci]? = some q → q.1 = μ.1.cls) (hsh : sh[k0]? = some (.inr (ci, fs))) (hf : fs[j]? = some o) (hn : ∀ a : Nat, narrow ty (.ref a) = .ref a) (hfit : ∀ a : Nat, fits ty (.ref a) = true) (hsh' : sh.set k0 (.inr (ci, fs.set j (some (some q)))) = sh') (hd : decode μ.2.1 pc = .ok (.putfield idx, 3)) (k : X ξ μ (pc + 3) ls st sh' M kc ks Q) : X ξ μ pc ls (.ref q :: .ref k0 :: st) sh M kc ks Q := by
  intro l dC dI cI cZ cS B sa A p e s m args below meth c H locs arr hC hE hW hS hL
  subst hsh'
  obtain ⟨C, T, N, ty0, host, h1, h2, h3, h4, h5, h6, h7, h8, h9⟩ := hF
  have he := x_ws_at (cI := cI) (cZ := cZ) (cS := cS) (B := B) (M := M) hsh
  have hl : j < (fs.mapIdx (x_val B (M k0))).length := by simpa using (List.getElem?_eq_some_iff.mp hf).1
  have e1 : (x_ws cI cZ cS B sh M).set k0 (B + k0, .inr (ci, (fs.mapIdx (x_val B (M k0))).set j (.ref (B + q)))) = x_ws cI cZ cS B (sh.set k0 (.inr (ci, fs.set j (some (some q))))) M := x_ws_setS hsh (by show (Sum.inr (ci, _) : va_E) = _; rw [x_obj_setR hf]; rfl)
  rcases h9 with ⟨-, h9⟩ | ⟨h0, -⟩
  · refine x_putF hC.1 hC.2.1 hC.2.2.2.2.2.2.2 h3 ty0 h4 h5 hC.2.2.2.2.1 hW.1 hW.2.1 hW.2.2.1 hS k0 he h1 j h2 (hC.2.2.2.2.2.2.2 _ h9) (fun _ h => h) h6 (hC.2.2.2.2.2.2.1.trans hin) (h8.trans (hC0 _ h1)) h7 (hn _) (hfit _) hl hd (fun H1 locs1 hz hP hD hS1 => ?_)
    have hP : va_P (dC, dI) vwCl (x_ws cI cZ cS B (sh.set k0 (.inr (ci, fs.set j (some (some q))))) M) H1 := by rw [← e1]; exact hP
    have hD : va_D A (x_ws cI cZ cS B (sh.set k0 (.inr (ci, fs.set j (some (some q))))) M) := by rw [← e1]; exact hD
    exact k l dC dI cI cZ cS B sa A p e s m args below meth c H1 locs1 arr hC hE ⟨hW.1, hP, hD, by rw [hz, hW.2.2.2, List.length_set]⟩ hS1 hL
  · cases h0
theorem X_alen {k0 tg n : Nat} {rs : List (Option Nat)} (v : Int32) (hsh : sh[k0]? = some (.inl (tg, n, rs))) (hv : Int32.ofNat n = v) (hd : decode μ.2.1 pc = .ok (.arraylength, 1)) (k : X ξ μ (pc + 1) ls (.int v :: st) sh M kc ks Q) : X ξ μ pc ls (.ref k0 :: st) sh M kc ks Q := by
  intro l dC dI cI cZ cS B sa A p e s m args below meth c H locs arr hC hE hW hS hL
  have he := x_ws_at (cI := cI) (cZ := cZ) (cS := cS) (B := B) (M := M) hsh
  match tg, he with
  | 0, he => exact va_alen hC.1 hC.2.1 hW.1 hW.2.1 k0 0 (x := (n, _)) he rfl hv hd (k l dC dI cI cZ cS B sa A p e s m args below meth c H locs arr hC hE hW hS hL)
  | 1, he => exact va_alen hC.1 hC.2.1 hW.1 hW.2.1 k0 1 (x := (n, _)) he rfl hv hd (k l dC dI cI cZ cS B sa A p e s m args below meth c H locs arr hC hE hW hS hL)
  | tg + 2, he => exact va_alen hC.1 hC.2.1 hW.1 hW.2.1 k0 2 (x := (n, _)) he rfl hv hd (k l dC dI cI cZ cS B sa A p e s m args below meth c H locs arr hC hE hW hS hL)
theorem X_iald {k0 n : Nat} {rs : List (Option Nat)} {i : Int32} {a : Option α} (hsh : sh[k0]? = some (.inl (0, n, rs))) (hd : decode μ.2.1 pc = .ok (.iaload, 1)) (h : xgd (xin i n) a = some z) (k : a = some z → X ξ μ (pc + 1) ls (.int (M k0 i.toNatClampNeg) :: st) sh M kc ks Q) : X ξ μ pc ls (.int i :: .ref k0 :: st) sh M kc ks Q := by
  intro l dC dI cI cZ cS B sa A p e s m args below meth c H locs arr hC hE hW hS hL
  obtain ⟨hi, h⟩ := xgd_some h
  have he := x_ws_at (cI := cI) (cZ := cZ) (cS := cS) (B := B) (M := M) hsh
  exact va_iald hC.1 hC.2.1 hW.1 hW.2.1 k0 0 he rfl (xin_vp hi) hd (k h l dC dI cI cZ cS B sa A p e s m args below meth c H locs arr hC hE hW hS hL)
theorem X_aald {k0 n : Nat} {rs : List (Option Nat)} {i : Int32} (r : Option Nat) (hsh : sh[k0]? = some (.inl (2, n, rs))) (hi : xin i n = true) (hr : (rs[i.toNatClampNeg]?).getD none = r) (hd : decode μ.2.1 pc = .ok (.aaload, 1)) (k : X ξ μ (pc + 1) ls (va_rf r :: st) sh M kc ks Q) : X ξ μ pc ls (.int i :: .ref k0 :: st) sh M kc ks Q := by
  intro l dC dI cI cZ cS B sa A p e s m args below meth c H locs arr hC hE hW hS hL
  have he := x_ws_at (cI := cI) (cZ := cZ) (cS := cS) (B := B) (M := M) hsh
  have k2 := (k l dC dI cI cZ cS B sa A p e s m args below meth c H locs arr hC hE hW hS hL)
  rw [List.map_cons, x_g_rf] at k2
  subst hr
  exact va_aldq hC.1 hC.2.1 hW.1 hW.2.1 k0 2 he rfl (xin_vp hi) hd k2
theorem X_iast {k0 n : Nat} {rs : List (Option Nat)} {i v : Int32} {g : xM → Option α} (hsh : sh[k0]? = some (.inl (0, n, rs))) (hd : decode μ.2.1 pc = .ok (.iastore, 1)) (h : xgd (xin i n) (xl (xw M k0 i.toNatClampNeg v) g) = some z) (k : ∀ M1 : xM, g M1 = some z → X ξ μ (pc + 1) ls st sh M1 kc ks Q) : X ξ μ pc ls (.int v :: .int i :: .ref k0 :: st) sh M kc ks Q := by
  intro l dC dI cI cZ cS B sa A p e s m args below meth c H locs arr hC hE hW hS hL
  obtain ⟨hi, h⟩ := xgd_some h
  have he := x_ws_at (cI := cI) (cZ := cZ) (cS := cS) (B := B) (M := M) hsh
  have e1 : (x_ws cI cZ cS B sh M).set k0 (B + k0, .inl (cI, n, .inl (upd (M k0) i.toNatClampNeg v))) = x_ws cI cZ cS B sh (xw M k0 i.toNatClampNeg v) := x_ws_set hsh (fun i hi => xw_ne hi) (by rw [xw_upd]; rfl)
  refine x_iast hC.1 hC.2.1 hW.1 hW.2.1 hW.2.2.1 hS k0 0 he rfl (xin_vp hi) hd (fun H1 locs1 hz hP hD hS1 => ?_)
  have hP : va_P (dC, dI) vwCl (x_ws cI cZ cS B sh (xw M k0 i.toNatClampNeg v)) H1 := by rw [← e1]; exact hP
  have hD : va_D A (x_ws cI cZ cS B sh (xw M k0 i.toNatClampNeg v)) := by rw [← e1]; exact hD
  exact k _ h l dC dI cI cZ cS B sa A p e s m args below meth c H1 locs1 arr hC hE ⟨hW.1, hP, hD, hz.trans hW.2.2.2⟩ hS1 hL
/-- the static arrays, and the law's script -/
def xGs (own : String) (idx : Nat) (C n : String) : Prop := Cond.fieldLink own idx C n "[I" ∈ xTW
theorem X_gets1 {idx : Nat} (hg : xGs μ.1.cls idx "SoundArchive$Kinds" "SPEEDS") (hd : decode μ.2.1 pc = .ok (.getstatic idx, 3)) (k : X ξ μ (pc + 3) ls (.float 1 :: st) sh M kc ks Q) : X ξ μ pc ls st sh M kc ks Q := by
  intro l dC dI cI cZ cS B sa A p e s m args below meth c H locs arr hC hE hW hS hL
  exact va_gets hC.1 hC.2.1 hE.2.2.1 hS hC.2.2.2.2.1 (hC.2.2.2.2.2.2.2 _ hg) (fun _ h => h) hd (k l dC dI cI cZ cS B sa A p e s m args below meth c H locs arr hC hE hW hS hL)
theorem X_gets2 {idx : Nat} (hg : xGs μ.1.cls idx "SoundArchive$Layouts" "STRIPS") (hd : decode μ.2.1 pc = .ok (.getstatic idx, 3)) (k : X ξ μ (pc + 3) ls (.float 2 :: st) sh M kc ks Q) : X ξ μ pc ls st sh M kc ks Q := by
  intro l dC dI cI cZ cS B sa A p e s m args below meth c H locs arr hC hE hW hS hL
  exact va_gets hC.1 hC.2.1 hE.2.2.2.2.1 hS hC.2.2.2.2.1 (hC.2.2.2.2.2.2.2 _ hg) (fun _ h => h) hd (k l dC dI cI cZ cS B sa A p e s m args below meth c H locs arr hC hE hW hS hL)
theorem X_alen1 (hd : decode μ.2.1 pc = .ok (.arraylength, 1)) (k : X ξ μ (pc + 1) ls (.int 9 :: st) sh M kc ks Q) : X ξ μ pc ls (.float 1 :: st) sh M kc ks Q := by
  intro l dC dI cI cZ cS B sa A p e s m args below meth c H locs arr hC hE hW hS hL
  exact va_tlen hC.1 hC.2.1 hE.2.2.2.1 hS rfl hd (k l dC dI cI cZ cS B sa A p e s m args below meth c H locs arr hC hE hW hS hL)
theorem X_alen2 (hd : decode μ.2.1 pc = .ok (.arraylength, 1)) (k : X ξ μ (pc + 1) ls (.int 16 :: st) sh M kc ks Q) : X ξ μ pc ls (.float 2 :: st) sh M kc ks Q := by
  intro l dC dI cI cZ cS B sa A p e s m args below meth c H locs arr hC hE hW hS hL
  exact va_tlen hC.1 hC.2.1 hE.2.2.2.2.2.1 hS rfl hd (k l dC dI cI cZ cS B sa A p e s m args below meth c H locs arr hC hE hW hS hL)
def xSpI (j : Nat) : Int32 := (([33, 45, 78, 95, 190, 380, 48, 0, 0] : List Int32)[j]?).getD 0
def xStI (j : Nat) : Int32 := (([15, 0, 0, 0, 3, 12, 0, 0, 1, 2, 4, 8, 1, 2, 4, 8] : List Int32)[j]?).getD 0
theorem X_iald1 {i : Int32} {a : Option α} (hd : decode μ.2.1 pc = .ok (.iaload, 1)) (h : xgd (xin i 9) a = some z) (k : a = some z → X ξ μ (pc + 1) ls (.int (xSpI i.toNatClampNeg) :: st) sh M kc ks Q) : X ξ μ pc ls (.int i :: .float 1 :: st) sh M kc ks Q := by
  intro l dC dI cI cZ cS B sa A p e s m args below meth c H locs arr hC hE hW hS hL
  obtain ⟨hi, h⟩ := xgd_some h
  exact va_ti hC.1 hC.2.1 hE.2.2.2.1 hS (xin_vp hi) (v := .int (xSpI i.toNatClampNeg)) rfl hd (k h l dC dI cI cZ cS B sa A p e s m args below meth c H locs arr hC hE hW hS hL)
theorem X_iald2 {i : Int32} {a : Option α} (hd : decode μ.2.1 pc = .ok (.iaload, 1)) (h : xgd (xin i 16) a = some z) (k : a = some z → X ξ μ (pc + 1) ls (.int (xStI i.toNatClampNeg) :: st) sh M kc ks Q) : X ξ μ pc ls (.int i :: .float 2 :: st) sh M kc ks Q := by
  intro l dC dI cI cZ cS B sa A p e s m args below meth c H locs arr hC hE hW hS hL
  obtain ⟨hi, h⟩ := xgd_some h
  exact va_ti hC.1 hC.2.1 hE.2.2.2.2.2.1 hS (xin_vp hi) (v := .int (xStI i.toNatClampNeg)) rfl hd (k h l dC dI cI cZ cS B sa A p e s m args below meth c H locs arr hC hE hW hS hL)
theorem X_alen3 (hd : decode μ.2.1 pc = .ok (.arraylength, 1)) (k : X ξ μ (pc + 1) ls (.int (Int32.ofNat ξ.1) :: st) sh M kc ks Q) : X ξ μ pc ls (.float 3 :: st) sh M kc ks Q := by
  intro l dC dI cI cZ cS B sa A p e s m args below meth c H locs arr hC hE hW hS hL
  exact va_slen hC.1 hC.2.1 hE.2.2.2.2.2.2.1 hE.2.2.2.2.2.2.2.1 hE.2.2.2.2.2.2.2.2 hS hd (k l dC dI cI cZ cS B sa A p e s m args below meth c H locs arr hC hE hW hS hL)
theorem X_iald3 {i : Int32} {a : Option α} (hd : decode μ.2.1 pc = .ok (.iaload, 1)) (h : xgd (xin i ξ.1) a = some z) (k : a = some z → X ξ μ (pc + 1) ls (.int (ξ.2 i.toNatClampNeg) :: st) sh M kc ks Q) : X ξ μ pc ls (.int i :: .float 3 :: st) sh M kc ks Q := by
  intro l dC dI cI cZ cS B sa A p e s m args below meth c H locs arr hC hE hW hS hL
  obtain ⟨hi, h⟩ := xgd_some h
  exact va_sld hC.1 hC.2.1 hE.2.2.2.2.2.2.1 hE.2.2.2.2.2.2.2.1 hE.2.2.2.2.2.2.2.2 hS (xin_vp hi) hd (k h l dC dI cI cZ cS B sa A p e s m args below meth c H locs arr hC hE hW hS hL)
end XM

