theorem x_framed {s t : State} {o : Outcome} {L : List Loc} {k n : Nat} (h : FrameEnd s o t L k n) (hL : ∀ q ∈ L, s.heap.size ≤ q.base) : Framed s o t [] k n := by
  obtain ⟨h1, h2, h3⟩ := h
  exact ⟨h1, h2, State.sameButNew.drop_fresh (L := []) (J := L) h3 hL⟩

/-! THE CLAIM OUT OF ONE WALK OF THE LAW'S BODY. Your part is whole_start (and what it stands on); all else here is the same for every law, but numbers. -/
def R_law : String := "SoundArchiveLaw"
def lw_P (b : Addr) (xs : List Int32) (args : Array Value) (s : State) : Prop := args = #[.ref b] ∧ s.IntsAt b xs ∧ xs.length ≤ 260 ∧ (Jvm.Cond.and given_1 narrow_1).before args s = true
def lw_Q (_ : Array Value) (s : State) (o : Outcome) (t : State) : Prop := o = .returned (some (.int 1)) ∧ Framed s o t [] 600000 7302250
def lw_Z (below : List Frame) (a : Array Value) (s : State) : State → Prop := fun t => ∃ o, t.status = .running ∧ Ended t below o ∧ lw_Q a s o t
/-- the law's own end, with 1 on the stack, nothing written that was there before, its room as the claim has it -/
theorem lw_ret {p : Program} {l : Launch} {e : Env} {s : State} {m : MethodId} {below : List Frame} {meth : Method} {c : Code} {b : Nat} (hx : p.tables.exec = Jvm.exec) (hb : c.code = code) (hr : meth.sig.returnType = ret) (hlocks : meth.locks = false) {pc : Nat} {H : Heap} {ls : Array Slot} (hdg : decode code pc = .ok (.ireturn, 1)) : W p l e room_1 s m #[Value.ref b] below meth c H [] 600000 7302250 (lw_Z below #[Value.ref b] s) (F0 m pc ls [.int 1]) := by
  intro T hT X
  obtain ⟨fs, hret, hrun, hended, hW, hframe⟩ := X.leave (v := some (.int 1)) (hlocks := hlocks) (fun h => by rw [hr] at h; cases h)
  have hmeth' : T.vm.method? m = some meth := X.method'
  refine ⟨T.setFrames fs, ?_, .returned (some (.int 1)), hrun, hended, rfl, ⟨_, rfl⟩, hW, hframe⟩
  jvm_step X.here [X.here.top, hx, hb, hdg, hmeth', hr, ret, narrow_b1]
  (try refine ⟨rfl, ?_⟩); (try refine ⟨rfl, ?_⟩)
  first | (intro acts; rw [hret _ acts rfl rfl rfl]) | rw [hret _ _ rfl rfl rfl]
  exact Steps.refl _
/-- what holds at the law's entry: the machine, the code, the tables' words (any of lw_tbl by 'hts w (by decide +kernel)'), the script of L ints xs at the cell b, what the Statement gives of the start (any of its parts by flat_of_before) -/
def lw_At (p : Program) (s : State) (m : MethodId) (meth : Method) (c : Code) (b L : Nat) (xs : Nat → Int32) : Prop :=
  p.tables.exec = Jvm.exec ∧ c.code = code ∧ meth.sig.returnType = ret ∧ c.maxLocals = 7 ∧ s.vm.findClass R_law = some m.cls ∧ (∀ w ∈ lw_tbl, w.before #[Value.ref b] s = true) ∧ va_X b L xs s s.heap ∧ b < s.heap.size ∧ meth.locks = false ∧ (Jvm.Cond.and given_1 narrow_1).before #[Value.ref b] s = true
set_option maxHeartbeats 2000000 in
theorem whole_from {p : Program} {e : Env} {s : State} {m : MethodId} {below : List Frame} {meth : Method} {c : Code} (l : Launch) (hflags : l.flags = flags0) {b L : Nat} {xs : Nat → Int32} (hL : L ≤ 260) (hnm : meth.name = "law") {M9 : xM} (hpure : f_L_law (L, xs) (mOf cL_80) = some (1, M9)) (C0 : lw_At p s m meth c b L xs) : W p l e room_1 s m #[Value.ref b] below meth c s.heap [] 0 0 (lw_Z below #[Value.ref b] s) (entryFrame m ([Value.ref b] : List Value).toArray 7) := by
  obtain ⟨hx, hb, hr, hml, hown, hts, hX, hbl, hlocks, hgv⟩ := id C0
  have hs := flat_of_before _ hgv
  have htw : ∀ w ∈ xTW, w.before #[Value.ref b] s = true := fun w hw => hts w (List.mem_filter.mp hw).1
  have hA : ∀ a : Nat, a < s.heap.size → ¬ (fun q : Nat => s.heap.size ≤ q) a := fun a h1 h2 => Nat.not_le.mpr h1 h2
  obtain ⟨c0, i0, hk0⟩ := u_known (N := 5) htw win_X0 (hts (.instantiable RX0 5) (List.mem_of_getElem? (i := 184) (by decide +kernel)))
  obtain ⟨c1, i1, hk1⟩ := u_known (N := 3) htw win_X1 (hts (.instantiable RX1 3) (List.mem_of_getElem? (i := 132) (by decide +kernel)))
  obtain ⟨c2, i2, hk2⟩ := u_known (N := 2) htw win_X4 (hts (.instantiable RX4 2) (List.mem_of_getElem? (i := 152) (by decide +kernel)))
  obtain ⟨c3, i3, hk3⟩ := u_known (N := 10) htw win_X5 (hts (.instantiable RX5 10) (List.mem_of_getElem? (i := 63) (by decide +kernel)))
  obtain ⟨c4, i4, hk4⟩ := u_known (N := 3) htw win_X6 (hts (.instantiable RX6 3) (List.mem_of_getElem? (i := 69) (by decide +kernel)))
  obtain ⟨c5, i5, hk5⟩ := u_known (N := 3) htw win_X7 (hts (.instantiable RX7 3) (List.mem_of_getElem? (i := 168) (by decide +kernel)))
  obtain ⟨c6, i6, hk6⟩ := u_known (N := 7) htw win_X8 (hts (.instantiable RX8 7) (List.mem_of_getElem? (i := 55) (by decide +kernel)))
  obtain ⟨dC, dI, hKc⟩ : ∃ (dC : Nat → ClassId) (dI : Nat → Nat → Nat), ∀ (k : Nat) (q : vw_C), vwCl[k]? = some q → u_Kn s q.1 q.2.1 q.2.2 (dC k) (dI k) := by
    refine ⟨fun k => if k = 0 then c0 else if k = 1 then c1 else if k = 2 then c2 else if k = 3 then c3 else if k = 4 then c4 else if k = 5 then c5 else c6, fun k => if k = 0 then i0 else if k = 1 then i1 else if k = 2 then i2 else if k = 3 then i3 else if k = 4 then i4 else if k = 5 then i5 else i6, ?_⟩
    intro k q hq
    match k, hq with
    | 0, hq => cases hq; exact hk0
    | 1, hq => cases hq; exact hk1
    | 2, hq => cases hq; exact hk2
    | 3, hq => cases hq; exact hk3
    | 4, hq => cases hq; exact hk4
    | 5, hq => cases hq; exact hk5
    | 6, hq => cases hq; exact hk6
    | k + 7, hq => simp [vwCl] at hq
  obtain ⟨cI, kI, pI, gI1, gI2, gI3⟩ := Cond.arrayClass_spec (hts (.arrayClass .int) (List.mem_of_getElem? (i := 89) (by decide +kernel)))
  obtain ⟨pS, cS, kS, gS1, gS2, gS3, gS4, gS5⟩ := Cond.arrayOver_spec (hts (.arrayOver (.object "SoundArchive$State")) (List.mem_of_getElem? (i := 138) (by decide +kernel)))
  have hK : va_K (dC, dI) vwCl (x_tys cI cI cS) s := by
    refine ⟨hKc, fun k q hq => ?_⟩
    match k, hq with
    | 0, hq => cases hq; exact ⟨fun n z => ⟨fun k h => (by cases h), kI, gI2, pI, gI3⟩, gI1⟩
    | 1, hq => cases hq; exact ⟨fun n z => ⟨fun k h => (by cases h), kI, gI2, pI, gI3⟩, gI1⟩
    | 2, hq => cases hq; exact ⟨fun n z => ⟨fun k h => (by cases h), kS, gS3, pS, gS4⟩, kS, pS, gS3, gS4, gS1, gS5⟩
    | k + 3, hq => simp at hq
  obtain ⟨t1, ht1, hT1⟩ := va_Tof (args := #[Value.ref b]) (s := s) (tm := .static "SoundArchive$Kinds" "SPEEDS" "[I") (ty := .int) (N := 9) (f := xSp) (A := fun q : Nat => s.heap.size ≤ q) (by decide) (hs (Cond.arrayOf (.static "SoundArchive$Kinds" "SPEEDS" "[I") .int) (by decide +kernel)) (va_eqt (hs (Cond.eq (.length (.static "SoundArchive$Kinds" "SPEEDS" "[I")) (.int 9)) (by decide +kernel))) (by
    intro j hj
    match j, hj with
    | 0, _ => exact va_eqt (hs (Cond.eq (.elem (.static "SoundArchive$Kinds" "SPEEDS" "[I") (.int 0)) (.int 33)) (by decide +kernel))
    | 1, _ => exact va_eqt (hs (Cond.eq (.elem (.static "SoundArchive$Kinds" "SPEEDS" "[I") (.int 1)) (.int 45)) (by decide +kernel))
    | 2, _ => exact va_eqt (hs (Cond.eq (.elem (.static "SoundArchive$Kinds" "SPEEDS" "[I") (.int 2)) (.int 78)) (by decide +kernel))
    | 3, _ => exact va_eqt (hs (Cond.eq (.elem (.static "SoundArchive$Kinds" "SPEEDS" "[I") (.int 3)) (.int 95)) (by decide +kernel))
    | 4, _ => exact va_eqt (hs (Cond.eq (.elem (.static "SoundArchive$Kinds" "SPEEDS" "[I") (.int 4)) (.int 190)) (by decide +kernel))
    | 5, _ => exact va_eqt (hs (Cond.eq (.elem (.static "SoundArchive$Kinds" "SPEEDS" "[I") (.int 5)) (.int 380)) (by decide +kernel))
    | 6, _ => exact va_eqt (hs (Cond.eq (.elem (.static "SoundArchive$Kinds" "SPEEDS" "[I") (.int 6)) (.int 48)) (by decide +kernel))
    | 7, _ => exact va_eqt (hs (Cond.eq (.elem (.static "SoundArchive$Kinds" "SPEEDS" "[I") (.int 7)) (.int 0)) (by decide +kernel))
    | 8, _ => exact va_eqt (hs (Cond.eq (.elem (.static "SoundArchive$Kinds" "SPEEDS" "[I") (.int 8)) (.int 0)) (by decide +kernel))
    | j + 9, hj => omega) hA
  obtain ⟨t2, ht2, hT2⟩ := va_Tof (args := #[Value.ref b]) (s := s) (tm := .static "SoundArchive$Layouts" "STRIPS" "[I") (ty := .int) (N := 16) (f := xSt) (A := fun q : Nat => s.heap.size ≤ q) (by decide) (hs (Cond.arrayOf (.static "SoundArchive$Layouts" "STRIPS" "[I") .int) (by decide +kernel)) (va_eqt (hs (Cond.eq (.length (.static "SoundArchive$Layouts" "STRIPS" "[I")) (.int 16)) (by decide +kernel))) (by
    intro j hj
    match j, hj with
    | 0, _ => exact va_eqt (hs (Cond.eq (.elem (.static "SoundArchive$Layouts" "STRIPS" "[I") (.int 0)) (.int 15)) (by decide +kernel))
    | 1, _ => exact va_eqt (hs (Cond.eq (.elem (.static "SoundArchive$Layouts" "STRIPS" "[I") (.int 1)) (.int 0)) (by decide +kernel))
    | 2, _ => exact va_eqt (hs (Cond.eq (.elem (.static "SoundArchive$Layouts" "STRIPS" "[I") (.int 2)) (.int 0)) (by decide +kernel))
    | 3, _ => exact va_eqt (hs (Cond.eq (.elem (.static "SoundArchive$Layouts" "STRIPS" "[I") (.int 3)) (.int 0)) (by decide +kernel))
    | 4, _ => exact va_eqt (hs (Cond.eq (.elem (.static "SoundArchive$Layouts" "STRIPS" "[I") (.int 4)) (.int 3)) (by decide +kernel))
    | 5, _ => exact va_eqt (hs (Cond.eq (.elem (.static "SoundArchive$Layouts" "STRIPS" "[I") (.int 5)) (.int 12)) (by decide +kernel))
    | 6, _ => exact va_eqt (hs (Cond.eq (.elem (.static "SoundArchive$Layouts" "STRIPS" "[I") (.int 6)) (.int 0)) (by decide +kernel))
    | 7, _ => exact va_eqt (hs (Cond.eq (.elem (.static "SoundArchive$Layouts" "STRIPS" "[I") (.int 7)) (.int 0)) (by decide +kernel))
    | 8, _ => exact va_eqt (hs (Cond.eq (.elem (.static "SoundArchive$Layouts" "STRIPS" "[I") (.int 8)) (.int 1)) (by decide +kernel))
    | 9, _ => exact va_eqt (hs (Cond.eq (.elem (.static "SoundArchive$Layouts" "STRIPS" "[I") (.int 9)) (.int 2)) (by decide +kernel))
    | 10, _ => exact va_eqt (hs (Cond.eq (.elem (.static "SoundArchive$Layouts" "STRIPS" "[I") (.int 10)) (.int 4)) (by decide +kernel))
    | 11, _ => exact va_eqt (hs (Cond.eq (.elem (.static "SoundArchive$Layouts" "STRIPS" "[I") (.int 11)) (.int 8)) (by decide +kernel))
    | 12, _ => exact va_eqt (hs (Cond.eq (.elem (.static "SoundArchive$Layouts" "STRIPS" "[I") (.int 12)) (.int 1)) (by decide +kernel))
    | 13, _ => exact va_eqt (hs (Cond.eq (.elem (.static "SoundArchive$Layouts" "STRIPS" "[I") (.int 13)) (.int 2)) (by decide +kernel))
    | 14, _ => exact va_eqt (hs (Cond.eq (.elem (.static "SoundArchive$Layouts" "STRIPS" "[I") (.int 14)) (.int 4)) (by decide +kernel))
    | 15, _ => exact va_eqt (hs (Cond.eq (.elem (.static "SoundArchive$Layouts" "STRIPS" "[I") (.int 15)) (.int 8)) (by decide +kernel))
    | j + 16, hj => omega) hA
  have hZ1 := va_Zref (hts (.laysStatic "SoundArchive$Kinds" "SPEEDS" "[I") (List.mem_of_getElem? (i := 239) (by decide +kernel))) (hts (.initialized "SoundArchive$Kinds") (List.mem_of_getElem? (i := 51) (by decide +kernel))) ht1 hA
  have hZ2 := va_Zref (hts (.laysStatic "SoundArchive$Layouts" "STRIPS" "[I") (List.mem_of_getElem? (i := 501) (by decide +kernel))) (hts (.initialized "SoundArchive$Layouts") (List.mem_of_getElem? (i := 52) (by decide +kernel))) ht2 hA
  have hNest : ∀ w ∈ lw_tbl, xNest w = true → va_Nw w s := fun w hw hn => by
    have h0 := hts w hw
    cases w with
    | methodLinkNest _ _ _ _ => exact va_Nw.of rfl h0
    | fieldLinkNest _ _ _ _ _ _ => exact va_Nw.of rfl h0
    | arrayOver t => cases t with
      | object C => exact va_AO.of h0
      | _ => cases hn
    | _ => cases hn
  have hE : xE (L, xs) (fun u => if u = 1 then t1 else if u = 2 then t2 else b) (fun q : Nat => s.heap.size ≤ q) s s.heap :=
    ⟨hNest, fun q h => h, hZ1, hT1, hZ2, hT2, hX, hbl, Nat.not_le.mpr hbl⟩
  have hW : xW dC dI cI cI cS s.heap.size (fun q : Nat => s.heap.size ≤ q) [] (mOf []) s s.heap := ⟨hK, fun k q h => by simp [x_ws] at h, ⟨fun i j p q h => by simp [x_ws] at h, fun k q h => by simp [x_ws] at h⟩, rfl⟩
  have hl := lv_entry ([.ref b]) (n := 7) (Nat.le_of_ble_eq_true rfl)
  rw [lg_entry_eq]
  have K := x_law (ξ := (L, xs)) hpure l dC dI cI cI cS s.heap.size (fun u => if u = 1 then t1 else if u = 2 then t2 else b) (fun q : Nat => s.heap.size ≤ q) p e s m #[Value.ref b] below meth c s.heap [] _ ⟨hx, hb, hr, hml, hown, hlocks, hnm, htw⟩ hE hW va_S.rf hl
  intro T hT Y
  obtain ⟨t, a1, o, b1, b2, ⟨⟨r, sh, M, d1, ⟨d2, d3, d4⟩, d5⟩, d6⟩, Ls, hF, hLf⟩ := K T hT Y
  subst d2
  exact ⟨t, a1, o, b1, b2, d1, x_framed hF hLf⟩

