/-! A machine state seen from above: the heap of the class and of the reference is a list of shapes sh (one cell each, at the addresses B, B + 1 ..) and a function M of cell and slot (their numbers). X says: from here the method ends, with an answer and a world that Q holds of. -/
abbrev xS : Type := (Nat × Nat × List (Option Nat)) ⊕ (Nat × List (Option (Option Nat)))
abbrev xM : Type := Nat → Nat → Int32
abbrev xD : Type := MethodName × ByteArray × Nat × Option FieldType × Nat × Nat × Nat × Nat
abbrev xX : Type := Nat × (Nat → Int32)
def xw (M : xM) (k j : Nat) (v : Int32) : xM := fun a b => if a = k ∧ b = j then v else M a b
def x_val (B : Nat) (f : Nat → Int32) (j : Nat) : Option (Option Nat) → Value
  | none => .int (f j)
  | some r => va_rf (r.map (fun q => B + q))
def x_cell (cI cZ cS : ClassId) (B : Nat) (f : Nat → Int32) : xS → va_E
  | .inl (0, n, _) => .inl (cI, n, .inl f)
  | .inl (1, n, _) => .inl (cZ, n, .inl f)
  | .inl (_, n, rs) => .inl (cS, n, .inr (.inr (.inr (.inr (fun j => ((rs[j]?).getD none).map (fun q => B + q))))))
  | .inr (ci, fs) => .inr (ci, fs.mapIdx (x_val B f))
def x_ws (cI cZ cS : ClassId) (B : Nat) (sh : List xS) (M : xM) : va_W := sh.mapIdx (fun k s => (B + k, x_cell cI cZ cS B (M k) s))
def x_g (B : Nat) (sa : UInt32 → Nat) : Value → Value
  | .ref k => .ref (B + k)
  | .float u => .ref (sa u)
  | v => v
def x_ix : Nat → List Value → List (Nat × Value)
  | _, [] => []
  | i, v :: vs => (i, v) :: x_ix (i + 1) vs
def x_hasL (B : Nat) (sa : UInt32 → Nat) (arr : Array Slot) (nL : Nat) (ls : List Value) : Prop := lv_has arr nL (x_ix 0 (ls.map (x_g B sa)))
def xNest : Cond → Bool
  | .methodLinkNest _ _ _ _ => true
  | .fieldLinkNest _ _ _ _ _ _ => true
  | .arrayOver (.object _) => true
  | _ => false
def xSp (j : Nat) : Value := .int ((([33, 45, 78, 95, 190, 380, 48, 0, 0] : List Int32)[j]?).getD 0)
def xSt (j : Nat) : Value := .int ((([15, 0, 0, 0, 3, 12, 0, 0, 1, 2, 4, 8, 1, 2, 4, 8] : List Int32)[j]?).getD 0)
def xrm (μ : xD) : Room := { frames := μ.2.2.2.2.1, cells := μ.2.2.2.2.2.2.1, slots := μ.2.2.2.2.2.2.2, locals := μ.2.2.2.2.2.1 }
def xC (μ : xD) (p : Program) (s : State) (m : MethodId) (args : Array Value) (meth : Method) (c : Code) : Prop :=
  p.tables.exec = Jvm.exec ∧ c.code = μ.2.1 ∧ meth.sig.returnType = μ.2.2.2.1 ∧ c.maxLocals = μ.2.2.1 ∧ s.vm.findClass μ.1.cls = some m.cls ∧ meth.locks = false ∧ meth.name = μ.1.name ∧ ∀ w ∈ xTW, w.before args s = true
def xE (ξ : xX) (sa : UInt32 → Nat) (A : Nat → Prop) (s : State) (H : Heap) : Prop :=
  (∀ w ∈ lw_tbl, xNest w = true → va_Nw w s) ∧ (∀ q, H.size ≤ q → A q) ∧ va_Z "SoundArchive$Kinds" "SPEEDS" "[I" (.ref (sa 1)) A s H ∧ va_T .int (sa 1) 9 xSp A s H ∧ va_Z "SoundArchive$Layouts" "STRIPS" "[I" (.ref (sa 2)) A s H ∧ va_T .int (sa 2) 16 xSt A s H ∧ va_X (sa 3) ξ.1 ξ.2 s H ∧ sa 3 < H.size ∧ ¬ A (sa 3)
abbrev x_tys (cI cZ cS : ClassId) : List (ClassId × FieldType) := [(cI, .int), (cZ, .int), (cS, .object "SoundArchive$State")]
def xW (dC : Nat → ClassId) (dI : Nat → Nat → Nat) (cI cZ cS : ClassId) (B : Nat) (A : Nat → Prop) (sh : List xS) (M : xM) (s : State) (H : Heap) : Prop :=
  va_K (dC, dI) vwCl (x_tys cI cZ cS) s ∧ va_P (dC, dI) vwCl (x_ws cI cZ cS B sh M) H ∧ va_D A (x_ws cI cZ cS B sh M) ∧ H.size = B + sh.length
def xQ (dC : Nat → ClassId) (dI : Nat → Nat → Nat) (cI cZ cS : ClassId) (B : Nat) (sa : UInt32 → Nat) (A : Nat → Prop) (Q : Option Value → List xS → xM → Prop) : Array Value → State → Outcome → State → Prop := fun _ st oc t =>
  (∃ (r : Option Value) (sh : List xS) (M : xM), oc = .returned (r.map (x_g B sa)) ∧ Q r sh M ∧ xW dC dI cI cZ cS B A sh M t t.heap) ∧ va_F A st t
def X (ξ : xX) (μ : xD) (pc : Nat) (ls st : List Value) (sh : List xS) (M : xM) (kc ks : Nat) (Q : Option Value → List xS → xM → Prop) : Prop :=
  ∀ (l : Launch) (dC : Nat → ClassId) (dI : Nat → Nat → Nat) (cI cZ cS : ClassId) (B : Nat) (sa : UInt32 → Nat) (A : Nat → Prop) (p : Program) (e : Env) (s : State) (m : MethodId) (args : Array Value) (below : List Frame) (meth : Method) (c : Code) (H : Heap) (locs : List Loc) (arr : Array Slot),
    xC μ p s m args meth c → xE ξ sa A s s.heap → xW dC dI cI cZ cS B A sh M s H → va_S A s.heap H locs → x_hasL B sa arr μ.2.2.1 ls →
    W p l e (xrm μ) s m args below meth c H locs kc ks (MQ below (xQ dC dI cI cZ cS B sa A Q) args s μ.2.2.2.2.2.2.1 μ.2.2.2.2.2.2.2 A) (F0 m pc arr (st.map (x_g B sa)))
theorem x_ws_len {cI cZ cS : ClassId} {B : Nat} {sh : List xS} {M : xM} : (x_ws cI cZ cS B sh M).length = sh.length := by simp [x_ws]
theorem x_ws_at {cI cZ cS : ClassId} {B : Nat} {sh : List xS} {M : xM} {k : Nat} {s : xS} (h : sh[k]? = some s) : (x_ws cI cZ cS B sh M)[k]? = some (B + k, x_cell cI cZ cS B (M k) s) := by simp [x_ws, List.getElem?_mapIdx, h]
theorem xw_ne {M : xM} {k j i : Nat} {v : Int32} (h : i ≠ k) : xw M k j v i = M i := by
  funext b
  simp [xw, h]
theorem xw_upd {M : xM} {k j : Nat} {v : Int32} : xw M k j v k = upd (M k) j v := by
  funext b
  simp [xw, upd]
theorem x_ws_set {cI cZ cS : ClassId} {B : Nat} {sh : List xS} {M M' : xM} {k : Nat} {s : xS} (h : sh[k]? = some s) (hM : ∀ i, i ≠ k → M' i = M i) {e : va_E} (he : x_cell cI cZ cS B (M' k) s = e) : (x_ws cI cZ cS B sh M).set k (B + k, e) = x_ws cI cZ cS B sh M' := by
  have hl : k < sh.length := (List.getElem?_eq_some_iff.mp h).1
  apply List.ext_getElem?
  intro i
  rw [List.getElem?_set]
  by_cases hi : k = i
  · subst hi
    rw [if_pos rfl, if_pos (by rw [x_ws_len]; exact hl), x_ws_at h, he]
  · rw [if_neg hi]
    simp only [x_ws, List.getElem?_mapIdx]
    rw [hM i (Ne.symm hi)]
theorem x_ws_setS {cI cZ cS : ClassId} {B : Nat} {sh : List xS} {M : xM} {k : Nat} {s s' : xS} (h : sh[k]? = some s) {e : va_E} (he : x_cell cI cZ cS B (M k) s' = e) : (x_ws cI cZ cS B sh M).set k (B + k, e) = x_ws cI cZ cS B (sh.set k s') M := by
  have hl : k < sh.length := (List.getElem?_eq_some_iff.mp h).1
  apply List.ext_getElem?
  intro i
  rw [List.getElem?_set]
  by_cases hi : k = i
  · subst hi
    rw [if_pos rfl, if_pos (by rw [x_ws_len]; exact hl)]
    simp only [x_ws, List.getElem?_mapIdx]
    rw [List.getElem?_set, if_pos rfl, if_pos hl]
    simp [he]
  · rw [if_neg hi]
    simp only [x_ws, List.getElem?_mapIdx]
    rw [List.getElem?_set, if_neg hi]
theorem x_ws_push {cI cZ cS : ClassId} {B : Nat} {sh : List xS} {M : xM} {s : xS} : x_ws cI cZ cS B (sh ++ [s]) M = x_ws cI cZ cS B sh M ++ [(B + sh.length, x_cell cI cZ cS B (M sh.length) s)] := by
  simp [x_ws, List.mapIdx_append]
theorem x_obj_set {B : Nat} {fs : List (Option (Option Nat))} {f : Nat → Int32} {j : Nat} {v : Int32} (hj : fs[j]? = some none) : fs.mapIdx (x_val B (upd f j v)) = (fs.mapIdx (x_val B f)).set j (.int v) := by
  have hl : j < fs.length := (List.getElem?_eq_some_iff.mp hj).1
  apply List.ext_getElem?
  intro i
  rw [List.getElem?_set]
  by_cases hi : j = i
  · subst hi
    rw [if_pos rfl, if_pos (by simpa using hl)]
    simp [List.getElem?_mapIdx, hj, x_val, upd]
  · rw [if_neg hi]
    simp only [List.getElem?_mapIdx]
    cases fs[i]? with
    | none => rfl
    | some o => cases o with
      | none => simp [x_val, upd, Ne.symm hi]
      | some r => rfl
theorem x_obj_setR {B : Nat} {fs : List (Option (Option Nat))} {f : Nat → Int32} {j : Nat} {r : Option Nat} {o : Option (Option Nat)} (hj : fs[j]? = some o) : (fs.set j (some r)).mapIdx (x_val B f) = (fs.mapIdx (x_val B f)).set j (va_rf (r.map (fun q => B + q))) := by
  have hl : j < fs.length := (List.getElem?_eq_some_iff.mp hj).1
  apply List.ext_getElem?
  intro i
  rw [List.getElem?_set]
  simp only [List.getElem?_mapIdx]
  rw [List.getElem?_set]
  by_cases hi : j = i
  · subst hi
    rw [if_pos rfl, if_pos rfl, if_pos hl, if_pos (by simpa using hl)]
    rfl
  · rw [if_neg hi, if_neg hi]
theorem x_g_cat (B : Nat) (sa : UInt32 → Nat) (v : Value) : (x_g B sa v).category = v.category := by cases v <;> rfl
theorem x_g_cats (B : Nat) (sa : UInt32 → Nat) (st : List Value) : ((st.map (x_g B sa)).map fun v => v.category) = st.map fun v => v.category := by
  rw [List.map_map]
  exact List.map_congr_left (fun v _ => x_g_cat B sa v)
theorem x_g_rf (B : Nat) (sa : UInt32 → Nat) (r : Option Nat) : x_g B sa (va_rf r) = va_rf (r.map (fun q => B + q)) := by cases r <;> rfl
theorem x_ix_at : ∀ (vs : List Value) (i k : Nat) (v : Value), vs[k]? = some v → (x_ix i vs)[k]? = some (i + k, v)
  | [], i, k, v, h => by simp at h
  | a :: vs, i, 0, v, h => by simp at h; subst h; rfl
  | a :: vs, i, k + 1, v, h => by
    have := x_ix_at vs (i + 1) k v (by simpa using h)
    simp only [x_ix, List.getElem?_cons_succ]
    rw [this]
    congr 2
    omega
theorem x_ix_mem : ∀ (vs : List Value) (i : Nat) (q : Nat × Value), q ∈ x_ix i vs → ∃ k, q.1 = i + k ∧ vs[k]? = some q.2
  | [], i, q, h => by simp [x_ix] at h
  | a :: vs, i, q, h => by
    rcases List.mem_cons.mp h with h | h
    · subst h
      exact ⟨0, rfl, rfl⟩
    · obtain ⟨k, h1, h2⟩ := x_ix_mem vs (i + 1) q h
      exact ⟨k + 1, by omega, by simpa using h2⟩
theorem x_ix_args : ∀ (vs : List Value) (i : Nat), (∀ v ∈ vs, v.category = 1) → lv_args i vs = x_ix i vs
  | [], i, _ => rfl
  | a :: vs, i, h => by
    have h1 : ¬ a.category = 2 := by rw [h a List.mem_cons_self]; decide
    simp only [lv_args, x_ix, h1, if_false]
    rw [x_ix_args vs (i + 1) (fun v hv => h v (List.mem_cons_of_mem _ hv))]
theorem x_hasL_at {B : Nat} {sa : UInt32 → Nat} {arr : Array Slot} {nL : Nat} {ls : List Value} (h : x_hasL B sa arr nL ls) {i : Nat} {v : Value} (hi : ls[i]? = some v) : arr[i]? = some (.val (x_g B sa v)) := by
  have := lv_at h i (i := i) (v := x_g B sa v) (by rw [x_ix_at (ls.map (x_g B sa)) 0 i (x_g B sa v) (by simp [hi])]; simp)
  exact this
theorem x_hasL_sz {B : Nat} {sa : UInt32 → Nat} {arr : Array Slot} {nL : Nat} {ls : List Value} (h : x_hasL B sa arr nL ls) : arr.size = nL := h.1
/-- other locals that are held too -/
theorem x_hasL_of {B : Nat} {sa : UInt32 → Nat} {arr : Array Slot} {nL : Nat} {l : List (Nat × Value)} {ls : List Value} (h : lv_has arr nL l) (hl : ∀ k v, ls[k]? = some v → (k, x_g B sa v) ∈ l) : x_hasL B sa arr nL ls := by
  refine ⟨h.1, h.2.1, fun q hq => ?_⟩
  obtain ⟨k, h1, h2⟩ := x_ix_mem _ _ _ hq
  rw [List.getElem?_map] at h2
  cases hv : ls[k]? with
  | none => rw [hv] at h2; simp at h2
  | some v =>
    rw [hv] at h2
    simp at h2
    have h3 := hl k v hv
    have h4 := h.2.2 _ h3
    have e : q = (k, x_g B sa v) := Prod.ext (by omega) h2.symm
    rw [e]
    exact h4
def x_up (ls : List Value) (i : Nat) (v : Value) : List Value := ls.take i ++ v :: ls.drop (i + 1)
theorem x_up_at {ls : List Value} {i : Nat} {v : Value} (hi : i ≤ ls.length) {k : Nat} {u : Value} (h : (x_up ls i v)[k]? = some u) : (k = i ∧ u = v) ∨ (k ≠ i ∧ ls[k]? = some u) := by
  have hlen : (ls.take i).length = i := by simp; omega
  unfold x_up at h
  rcases Nat.lt_trichotomy k i with hk | hk | hk
  · rw [List.getElem?_append_left (by omega)] at h
    rw [List.getElem?_take] at h
    rw [if_pos hk] at h
    exact Or.inr ⟨by omega, h⟩
  · subst hk
    rw [List.getElem?_append_right (by omega), hlen, Nat.sub_self] at h
    simp at h
    exact Or.inl ⟨rfl, h.symm⟩
  · rw [List.getElem?_append_right (by omega), hlen] at h
    obtain ⟨d, rfl⟩ : ∃ d, k = i + 1 + d := ⟨k - (i + 1), by omega⟩
    rw [show i + 1 + d - i = d + 1 by omega] at h
    simp at h
    exact Or.inr ⟨by omega, h⟩
theorem x_hasL_up {B : Nat} {sa : UInt32 → Nat} {arr : Array Slot} {nL : Nat} {ls : List Value} {i : Nat} {v : Value} (hi : i ≤ ls.length) (hc : ∀ u ∈ ls, u.category = 1)
    (h : lv_has arr nL ((i, x_g B sa v) :: (x_ix 0 (ls.map (x_g B sa))).filter (fun q => !(q.1 == i) && !(q.1 + 1 == i && q.2.category == 2)))) : x_hasL B sa arr nL (x_up ls i v) := by
  refine x_hasL_of h fun k u hu => ?_
  rcases x_up_at hi hu with ⟨rfl, rfl⟩ | ⟨hk, hu⟩
  · exact List.mem_cons_self
  · refine List.mem_cons_of_mem _ (List.mem_filter.mpr ⟨?_, ?_⟩)
    · have := x_ix_at (ls.map (x_g B sa)) 0 k (x_g B sa u) (by simp [hu])
      rw [Nat.zero_add] at this
      exact List.mem_of_getElem? this
    · have := hc u (List.mem_of_getElem? hu)
      simp [hk, x_g_cat, this]
