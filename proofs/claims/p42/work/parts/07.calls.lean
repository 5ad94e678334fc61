section XCL
theorem xE_next {ξ : xX} {sa : UInt32 → Nat} {A : Nat → Prop} {s U : State} {H : Heap} {locs : List Loc} (hE : xE ξ sa A s s.heap) (hS : va_S A s.heap H locs) (hU : U.heap = H) (hW : s.WarmedH U.vm) : xE ξ sa A U U.heap := by
  obtain ⟨h1, h2, h3, h4, h5, h6, h7, h8, h9⟩ := hE
  subst hU
  have hk : ∀ a : Nat, a < s.heap.size → ¬ A a → U.heap[a]? = s.heap[a]? := fun a h1 h2 => hS.2.1 a h1 h2
  refine ⟨fun w hw hn => ?_, fun q hq => h2 q (Nat.le_trans hS.1 hq), (h3.kept hk).moved hW.alike, (h4.kept hk).moved hW.alike, (h5.kept hk).moved hW.alike, (h6.kept hk).moved hW.alike, (h7.kept (hk _ h8 h9)).moved hW.alike, Nat.lt_of_lt_of_le h8 hS.1, h9⟩
  have h0 := h1 w hw hn
  cases w with
  | methodLinkNest _ _ _ _ => exact va_Nw.warmM hW h0
  | fieldLinkNest _ _ _ _ _ _ => exact va_Nw.warmF hW h0
  | arrayOver t => cases t with
    | object C => exact va_AO.moved (C := C) hW.alike h0
    | _ => cases hn
  | _ => cases hn
theorem xE_call {ξ : xX} {sa : UInt32 → Nat} {A : Nat → Prop} {U : State} {g : JFrame} {mk : MethodId} {a : Array Value} (hE : xE ξ sa A U U.heap) : xE ξ sa A (U.calling g mk a) (U.calling g mk a).heap := by
  obtain ⟨h1, h2, h3, h4, h5, h6, h7, h8, h9⟩ := hE
  refine ⟨fun w hw hn => ?_, h2, h3.moved (Vm.Alike.refl U.vm), h4.moved (Vm.Alike.refl U.vm), h5.moved (Vm.Alike.refl U.vm), h6.moved (Vm.Alike.refl U.vm), h7.moved (Vm.Alike.refl U.vm), h8, h9⟩
  have h0 := h1 w hw hn
  cases w with
  | methodLinkNest _ _ _ _ => exact va_Nw.same (u := U) (U := U.calling g mk a) rfl rfl h0
  | fieldLinkNest _ _ _ _ _ _ => exact va_Nw.same (u := U) (U := U.calling g mk a) rfl rfl h0
  | arrayOver t => cases t with
    | object C => exact va_AO.moved (C := C) (U := U.calling g mk a) (Vm.Alike.refl U.vm) h0
    | _ => cases hn
  | _ => cases hn
theorem xW_moved {dC : Nat → ClassId} {dI : Nat → Nat → Nat} {cI cZ cS : ClassId} {B : Nat} {A : Nat → Prop} {sh : List xS} {M : xM} {u U : State} {H : Heap} (hvm : u.vm.Alike U.vm) (h : xW dC dI cI cZ cS B A sh M u H) : xW dC dI cI cZ cS B A sh M U H := ⟨va_K.moved hvm h.1, h.2⟩
def xPc (ξ : xX) (dC : Nat → ClassId) (dI : Nat → Nat → Nat) (cI cZ cS : ClassId) (B : Nat) (sa : UInt32 → Nat) (A : Nat → Prop) (as : List Value) (sh : List xS) (M : xM) : Array Value → State → Prop := va_Pc (as.map (x_g B sa)) (fun U => xE ξ sa A U U.heap ∧ xW dC dI cI cZ cS B A sh M U U.heap)
theorem xPc_blind {ξ : xX} {dC : Nat → ClassId} {dI : Nat → Nat → Nat} {cI cZ cS : ClassId} {B : Nat} {sa : UInt32 → Nat} {A : Nat → Prop} {as : List Value} {sh : List xS} {M : xM} : FrameBlind (xPc ξ dC dI cI cZ cS B sa A as sh M) := by
  intro a U g mk h
  exact ⟨h.1, xE_call h.2.1, xW_moved (u := U) (U := U.calling g mk a) (Vm.Alike.refl U.vm) h.2.2⟩
theorem X_met {ξ : xX} {μ' : xD} {as : List Value} {sh : List xS} {M : xM} {Q' : Option Value → List xS → xM → Prop} (hX : X ξ μ' 0 as [] sh M 0 0 Q') (hpl : plainName μ'.1.cls = true) (hcat : ∀ v ∈ as, v.category = 1) (hlen : as.length ≤ μ'.2.2.1)
    (l : Launch) (dC : Nat → ClassId) (dI : Nat → Nat → Nat) (cI cZ cS : ClassId) (B : Nat) (sa : UInt32 → Nat) (A : Nat → Prop) : Met l μ'.1 (Cond.code μ'.1 μ'.2.1 μ'.2.2.1 μ'.2.2.2.1 :: xTW) (xrm μ') (xPc ξ dC dI cI cZ cS B sa A as sh M) (xQ dC dI cI cZ cS B sa A Q') μ'.2.2.2.2.2.2.1 μ'.2.2.2.2.2.2.2 A := by
  refine Met.ofW (cc := μ'.2.1) (maxL := μ'.2.2.1) (ret := μ'.2.2.2.1) hpl rfl ?_
  intro p e s m args below meth c s₁ Bd hml hv
  obtain ⟨rfl, hE, hW⟩ := hv
  have hts := atoms_spec (ws := Cond.code μ'.1 μ'.2.1 μ'.2.2.1 μ'.2.2.2.1 :: xTW) Bd.pre
  have hcat' : ∀ v ∈ as.map (x_g B sa), v.category = 1 := fun v hv => by
    obtain ⟨u, hu, rfl⟩ := List.mem_map.mp hv
    rw [x_g_cat]
    exact hcat u hu
  have hsl : ∀ vs : List Value, (∀ v ∈ vs, v.category = 1) → (lg_sl vs).length = vs.length := by
    intro vs
    induction vs with
    | nil => intro _; rfl
    | cons v vs ih =>
      intro h
      have h1 : ¬ v.category = 2 := by rw [h v List.mem_cons_self]; decide
      have h2 := ih (fun u hu => h u (List.mem_cons_of_mem _ hu))
      simp only [lg_sl, List.flatMap_cons, h1, if_false] at h2 ⊢
      simp [h2]
  have hl := lv_entry (as.map (x_g B sa)) (n := μ'.2.2.1) (by rw [hsl _ hcat']; simpa using hlen)
  rw [lg_entry_eq]
  refine hX l dC dI cI cZ cS B sa A p e s m _ below meth c s.heap [] _ ⟨Bd.exec, Bd.bytes, Bd.returns, hml, findClass_of_methodNamed Bd.named, Bd.notSynchronized, (name_of_methodNamed Bd.named Bd.method).1, fun w hw => hts w (List.mem_cons_of_mem _ hw)⟩ hE hW va_S.rf ?_
  rw [x_ix_args _ _ hcat'] at hl
  exact hl
theorem x_call {p : Program} {l : Launch} {e : Env} {R : Room} {s : State} {m : MethodId} {args : Array Value} {below : List Frame} {meth : Method} {c : Code} {H : Heap} {locs : List Loc} {cells slots : Nat} {Z : State → Prop} {pc : Nat} {ls : Array Slot} {rest st0 : List Value} {a : Array Value} {mc ms : Nat}
    {dC : Nat → ClassId} {dI : Nat → Nat → Nat} {cI cZ cS : ClassId} {B : Nat} {sa : UInt32 → Nat} {A : Nat → Prop} {Q' : Option Value → List xS → xM → Prop} (hr : va_Run p l e R s m args below meth c H locs cells slots mc ms (F0 m pc ls st0) rest (xQ dC dI cI cZ cS B sa A Q' a) A) (hS : va_S A s.heap H locs)
    (kk : ∀ (r : Option Value) (sh : List xS) (M : xM) (H1 : Heap) (locs1 : List Loc), Q' r sh M → xW dC dI cI cZ cS B A sh M s H1 → va_S A s.heap H1 locs1 → W p l e R s m args below meth c H1 locs1 (cells + mc) (slots + ms) Z (F0 m (pc + 3) ls ((r.map (x_g B sa)).toList ++ rest))) : W p l e R s m args below meth c H locs cells slots Z (F0 m pc ls st0) := by
  intro T hT X
  obtain ⟨v, st₀, t, T', L, h0, X', hL, e1, e2, ⟨⟨r, sh, M, hv, hp, hb⟩, hz, hk⟩, st⟩ := hr T hT X
  have hv : v = r.map (x_g B sa) := by cases hv; rfl
  subst hv
  rw [h0] at hz hk
  have hvm : t.vm.Alike s.vm := by rw [← e2]; exact X'.warmed.alike.symm
  obtain ⟨t2, a1, b1⟩ := kk r sh M T'.heap (locs ++ L) hp (xW_moved hvm (by rw [e1]; exact hb))
    ⟨Nat.le_trans hS.1 (by rw [e1]; exact hz), fun q h1 h2 => by rw [e1, hk q (Nat.lt_of_lt_of_le h1 hS.1) h2]; exact hS.2.1 q h1 h2, fun q hq => by
      rcases List.mem_append.mp hq with h | h
      · exact hS.2.2 q h
      · exact hL q h⟩ T' rfl X'
  exact ⟨t2, st t2 a1, b1⟩
/-- what the tables say of a method that is called -/
def xMk (μ' : xD) (n : Nat) : Prop := plainName μ'.1.cls = true ∧ Cond.code μ'.1 μ'.2.1 μ'.2.2.1 μ'.2.2.2.1 ∈ xTW ∧ Cond.initialized μ'.1.cls ∈ xTW ∧ (μ'.1.cls ≠ "java/lang/invoke/MethodHandle" ∧ μ'.1.cls ≠ "java/lang/invoke/VarHandle" ∧ (parseMethodDescriptor μ'.1.desc).map (fun d => d.parameters.length) = some n)
def xMkV (μ' : xD) (n : Nat) : Prop := xMk μ' n ∧ Cond.instanceMethod μ'.1 ∈ xTW ∧ Cond.selects μ'.1.cls μ'.1 μ'.1 ∈ xTW
def xMkS (μ' : xD) (n : Nat) : Prop := xMk μ' n ∧ Cond.static μ'.1 ∈ xTW
def xMkI (μ' : xD) (n : Nat) : Prop := xMk μ' n ∧ Cond.instanceMethod μ'.1 ∈ xTW ∧ μ'.1.name = "<init>" ∧ μ'.2.2.2.1 = none
def xLk (own : String) (idx : Nat) (y : MethodName) : Prop := Cond.methodLink own idx y ∈ xTW ∨ ∃ host, Cond.methodLinkNest own idx y host ∈ lw_tbl
def xRm (μ μ' : xD) : Prop := μ'.2.2.2.2.1 + 1 ≤ μ.2.2.2.2.1 ∧ 8 + (μ'.2.2.1 + 11) + μ'.2.2.2.2.2.1 ≤ μ.2.2.2.2.2.1
theorem xTW_code {μ' : xD} (h : Cond.code μ'.1 μ'.2.1 μ'.2.2.1 μ'.2.2.2.1 ∈ xTW) : GoodIn xTW (Cond.code μ'.1 μ'.2.1 μ'.2.2.1 μ'.2.2.2.1 :: xTW) := by
  intro w hw
  rcases List.mem_cons.mp hw with rfl | hw
  · exact xTW_g _ h
  · exact xTW_g _ hw
variable {ξ : xX} {μ μ' : xD} {pc : Nat} {ls st as rest : List Value} {sh : List xS} {M : xM} {kc ks : Nat} {Q Q' : Option Value → List xS → xM → Prop} {α β : Type} {z : α}
theorem X_callV {k0 idx n ci : Nat} {fs : List (Option (Option Nat))} {q : vw_C} (as : List Value) (rest : List Value) (hLk : xLk μ.1.cls idx μ'.1) (hMk : xMkV μ' n) (hRm : xRm μ μ') (hcs : kc + μ'.2.2.2.2.2.2.1 ≤ μ.2.2.2.2.2.2.1 ∧ ks + μ'.2.2.2.2.2.2.2 ≤ μ.2.2.2.2.2.2.2) (hsh : sh[k0]? = some (.inr (ci, fs))) (hcl : vwCl[ci]? = some q) (hq : q.1 = μ'.1.cls) (hn : as.length = n) (hst : as.reverse ++ .ref k0 :: rest = st) (hrest : (rest.map fun v => v.category).sum ≤ 8) (hcat : ∀ v ∈ Value.ref k0 :: as, v.category = 1) (hlen : as.length + 1 ≤ μ'.2.2.1) (hd : decode μ.2.1 pc = .ok (.invokevirtual idx, 3)) (hX : X ξ μ' 0 (.ref k0 :: as) [] sh M 0 0 Q')
    (k : ∀ r sh' M', Q' r sh' M' → X ξ μ (pc + 3) ls (r.toList ++ rest) sh' M' (kc + μ'.2.2.2.2.2.2.1) (ks + μ'.2.2.2.2.2.2.2) Q) : X ξ μ pc ls st sh M kc ks Q := by
  intro l dC dI cI cZ cS B sa A p e s m args below meth c H locs arr hC hE hW hS hL
  obtain ⟨⟨hpl, hcode, hini, hd1, hd2, hd3⟩, hinst, hsel⟩ := hMk
  have ht := hC.2.2.2.2.2.2.2
  have hM := X_met hX hpl hcat (by simpa using hlen) l dC dI cI cZ cS B sa A
  have hG := xTW_code hcode
  have he := x_ws_at (cI := cI) (cZ := cZ) (cS := cS) (B := B) (M := M) hsh
  have hcat2 : ((rest.map (x_g B sa)).map fun v => v.category).sum ≤ 8 := by rw [x_g_cats]; exact hrest
  have hp : PreV s H μ'.1.cls (B + k0) (xPc ξ dC dI cI cZ cS B sa A (.ref k0 :: as) sh M) (as.map (x_g B sa)) := ⟨xPc_blind, by rw [← hq]; exact va_recv hW.1 hW.2.1 hcl he, fun U hU hWm => ⟨rfl, xE_next hE hS hU hWm, xW_moved hWm.alike (by rw [hU]; exact hW)⟩⟩
  have hst2 : st.map (x_g B sa) = (as.map (x_g B sa)).reverse ++ Value.ref (B + k0) :: rest.map (x_g B sa) := by rw [← hst]; simp [x_g]
  have key : va_Run p l e (xrm μ) s m args below meth c H locs kc ks μ'.2.2.2.2.2.2.1 μ'.2.2.2.2.2.2.2 (F0 m pc arr (st.map (x_g B sa))) (rest.map (x_g B sa)) (xQ dC dI cI cZ cS B sa A Q' (Value.ref (B + k0) :: as.map (x_g B sa)).toArray) A := by
    rcases hLk with hLk | ⟨host, hLk⟩
    · exact va_runV (nL := arr.size) (C := μ'.1.cls) ⟨hC.1, hC.2.1, hC.2.2.2.1.trans (x_hasL_sz hL).symm, hC.2.2.2.2.1, ht⟩ hM ⟨callB_of n ht hG rfl rfl rfl (ht _ hini) (ht _ hLk) ⟨hd1, hd2, hd3⟩ hRm, ht _ hinst, ht _ hsel⟩ hp rfl (by simpa using hn) rfl hst2 (lv_room hcat2) hd hcs
    · exact va_runVN (nL := arr.size) (C := μ'.1.cls) (host := host) ⟨hC.1, hC.2.1, hC.2.2.2.1.trans (x_hasL_sz hL).symm, hC.2.2.2.2.1, ht⟩ hM ⟨va_cnB n ht hG rfl rfl rfl (hE.1 _ hLk rfl) (ht _ hini) ⟨hd1, hd2, hd3⟩ hRm, ht _ hinst, ht _ hsel⟩ hp rfl (by simpa using hn) rfl hst2 (lv_room hcat2) hd hcs
  refine x_call key hS (fun r sh' M' H1 locs1 hq' hW' hS' => ?_)
  have := k r sh' M' hq' l dC dI cI cZ cS B sa A p e s m args below meth c H1 locs1 arr hC hE hW' hS' hL
  rw [List.map_append] at this
  cases r <;> exact this
theorem X_callS {idx n : Nat} (as : List Value) (rest : List Value) (hLk : xLk μ.1.cls idx μ'.1) (hMk : xMkS μ' n) (hRm : xRm μ μ') (hcs : kc + μ'.2.2.2.2.2.2.1 ≤ μ.2.2.2.2.2.2.1 ∧ ks + μ'.2.2.2.2.2.2.2 ≤ μ.2.2.2.2.2.2.2) (hn : as.length = n) (hst : as.reverse ++ rest = st) (hrest : (rest.map fun v => v.category).sum ≤ 8) (hcat : ∀ v ∈ as, v.category = 1) (hlen : as.length ≤ μ'.2.2.1) (hd : decode μ.2.1 pc = .ok (.invokestatic idx, 3)) (hX : X ξ μ' 0 as [] sh M 0 0 Q')
    (k : ∀ r sh' M', Q' r sh' M' → X ξ μ (pc + 3) ls (r.toList ++ rest) sh' M' (kc + μ'.2.2.2.2.2.2.1) (ks + μ'.2.2.2.2.2.2.2) Q) : X ξ μ pc ls st sh M kc ks Q := by
  intro l dC dI cI cZ cS B sa A p e s m args below meth c H locs arr hC hE hW hS hL
  obtain ⟨⟨hpl, hcode, hini, hd1, hd2, hd3⟩, hstat⟩ := hMk
  have ht := hC.2.2.2.2.2.2.2
  have hM := X_met hX hpl hcat hlen l dC dI cI cZ cS B sa A
  have hG := xTW_code hcode
  have hcat2 : ((rest.map (x_g B sa)).map fun v => v.category).sum ≤ 8 := by rw [x_g_cats]; exact hrest
  have hp : PreS s H (xPc ξ dC dI cI cZ cS B sa A as sh M) (as.map (x_g B sa)) := ⟨xPc_blind, fun U hU hWm => ⟨rfl, xE_next hE hS hU hWm, xW_moved hWm.alike (by rw [hU]; exact hW)⟩⟩
  have hst2 : st.map (x_g B sa) = (as.map (x_g B sa)).reverse ++ rest.map (x_g B sa) := by rw [← hst]; simp
  have key : va_Run p l e (xrm μ) s m args below meth c H locs kc ks μ'.2.2.2.2.2.2.1 μ'.2.2.2.2.2.2.2 (F0 m pc arr (st.map (x_g B sa))) (rest.map (x_g B sa)) (xQ dC dI cI cZ cS B sa A Q' (as.map (x_g B sa)).toArray) A := by
    rcases hLk with hLk | ⟨host, hLk⟩
    · exact va_runS (nL := arr.size) ⟨hC.1, hC.2.1, hC.2.2.2.1.trans (x_hasL_sz hL).symm, hC.2.2.2.2.1, ht⟩ hM ⟨callB_of n ht hG rfl rfl rfl (ht _ hini) (ht _ hLk) ⟨hd1, hd2, hd3⟩ hRm, ht _ hstat⟩ hp rfl (by simpa using hn) rfl hst2 (lv_room hcat2) hd hcs
    · exact va_runSN (nL := arr.size) (host := host) ⟨hC.1, hC.2.1, hC.2.2.2.1.trans (x_hasL_sz hL).symm, hC.2.2.2.2.1, ht⟩ hM ⟨va_cnB n ht hG rfl rfl rfl (hE.1 _ hLk rfl) (ht _ hini) ⟨hd1, hd2, hd3⟩ hRm, ht _ hstat, trivial⟩ hp rfl (by simpa using hn) rfl hst2 (lv_room hcat2) hd hcs
  refine x_call key hS (fun r sh' M' H1 locs1 hq' hW' hS' => ?_)
  have := k r sh' M' hq' l dC dI cI cZ cS B sa A p e s m args below meth c H1 locs1 arr hC hE hW' hS' hL
  rw [List.map_append] at this
  cases r <;> exact this
theorem X_callI {k0 idx n : Nat} (as : List Value) (rest : List Value) (hLk : xLk μ.1.cls idx μ'.1) (hMk : xMkI μ' n) (hRm : xRm μ μ') (hcs : kc + μ'.2.2.2.2.2.2.1 ≤ μ.2.2.2.2.2.2.1 ∧ ks + μ'.2.2.2.2.2.2.2 ≤ μ.2.2.2.2.2.2.2) (hn : as.length = n) (hst : as.reverse ++ .ref k0 :: rest = st) (hrest : (rest.map fun v => v.category).sum ≤ 8) (hcat : ∀ v ∈ Value.ref k0 :: as, v.category = 1) (hlen : as.length + 1 ≤ μ'.2.2.1) (hd : decode μ.2.1 pc = .ok (.invokespecial idx, 3)) (hX : X ξ μ' 0 (.ref k0 :: as) [] sh M 0 0 Q')
    (k : ∀ r sh' M', Q' r sh' M' → X ξ μ (pc + 3) ls (r.toList ++ rest) sh' M' (kc + μ'.2.2.2.2.2.2.1) (ks + μ'.2.2.2.2.2.2.2) Q) : X ξ μ pc ls st sh M kc ks Q := by
  intro l dC dI cI cZ cS B sa A p e s m args below meth c H locs arr hC hE hW hS hL
  obtain ⟨⟨hpl, hcode, hini, hd1, hd2, hd3⟩, hinst, hnm, hret⟩ := hMk
  have ht := hC.2.2.2.2.2.2.2
  have hM := X_met hX hpl hcat (by simpa using hlen) l dC dI cI cZ cS B sa A
  have hG := xTW_code hcode
  have hcat2 : ((rest.map (x_g B sa)).map fun v => v.category).sum ≤ 8 := by rw [x_g_cats]; exact hrest
  have hp : PreS s H (xPc ξ dC dI cI cZ cS B sa A (.ref k0 :: as) sh M) (Value.ref (B + k0) :: as.map (x_g B sa)) := ⟨xPc_blind, fun U hU hWm => ⟨rfl, xE_next hE hS hU hWm, xW_moved hWm.alike (by rw [hU]; exact hW)⟩⟩
  have hst2 : st.map (x_g B sa) = (as.map (x_g B sa)).reverse ++ Value.ref (B + k0) :: rest.map (x_g B sa) := by rw [← hst]; simp [x_g]
  rw [hret] at hcode hM hG
  have key : va_Run p l e (xrm μ) s m args below meth c H locs kc ks μ'.2.2.2.2.2.2.1 μ'.2.2.2.2.2.2.2 (F0 m pc arr (st.map (x_g B sa))) (rest.map (x_g B sa)) (xQ dC dI cI cZ cS B sa A Q' (Value.ref (B + k0) :: as.map (x_g B sa)).toArray) A := by
    rcases hLk with hLk | ⟨host, hLk⟩
    · exact va_runI (nL := arr.size) ⟨hC.1, hC.2.1, hC.2.2.2.1.trans (x_hasL_sz hL).symm, hC.2.2.2.2.1, ht⟩ hM ⟨callB_of n ht hG rfl rfl rfl (ht _ hini) (ht _ hLk) ⟨hd1, hd2, hd3⟩ hRm, hnm, ht _ hinst⟩ hp rfl (by simpa using hn) rfl hst2 (lv_room hcat2) hd hcs
    · exact va_runIN (nL := arr.size) (host := host) ⟨hC.1, hC.2.1, hC.2.2.2.1.trans (x_hasL_sz hL).symm, hC.2.2.2.2.1, ht⟩ hM ⟨va_cnB n ht hG rfl rfl rfl (hE.1 _ hLk rfl) (ht _ hini) ⟨hd1, hd2, hd3⟩ hRm, hnm, ht _ hinst⟩ hp rfl (by simpa using hn) rfl hst2 (lv_room hcat2) hd hcs
  refine x_call key hS (fun r sh' M' H1 locs1 hq' hW' hS' => ?_)
  have := k r sh' M' hq' l dC dI cI cZ cS B sa A p e s m args below meth c H1 locs1 arr hC hE hW' hS' hL
  rw [List.map_append] at this
  cases r <;> exact this
end XCL

