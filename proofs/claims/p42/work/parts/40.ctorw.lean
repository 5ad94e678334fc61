section XCC
variable {ξ : xX} {μ μ' : xD} {pc : Nat} {ls st as rest : List Value} {sh : List xS} {M : xM} {kc ks : Nat} {Q Q' : Option Value → List xS → xM → Prop}
def mOf (l : List (Nat × Nat × Int32)) : xM := fun a b => match l.find? (fun e => e.1 == a && e.2.1 == b) with | some e => e.2.2 | none => 0
theorem mOf_w {l : List (Nat × Nat × Int32)} {k j : Nat} {v : Int32} : xw (mOf l) k j v = mOf ((k, j, v) :: l) := by
  funext a b
  by_cases h : a = k ∧ b = j
  · obtain ⟨rfl, rfl⟩ := h
    simp [xw, mOf]
  · have h2 : (k == a && j == b) = false := by
      cases hk : (k == a && j == b) with
      | false => rfl
      | true =>
        simp at hk
        exact absurd ⟨hk.1.symm, hk.2.symm⟩ h
    simp only [xw, h, if_false, mOf, List.find?_cons, h2]
theorem mOf_n {l : List (Nat × Nat × Int32)} {k : Nat} (h : l.all (fun e => e.1 != k) = true) : xn (mOf l) k = mOf l := by
  funext a b
  by_cases ha : a = k
  · subst ha
    have : l.find? (fun e => e.1 == a && e.2.1 == b) = none := by
      rw [List.find?_eq_none]
      intro e he
      have := List.all_eq_true.mp h e he
      simp at this
      simp [this]
    simp [xn, mOf, this]
  · simp [xn, ha]
theorem X_newC {idx ci N : Nat} {C : String} {T : u_T} (fs : List (Option (Option Nat))) (ty : Nat → FieldType) (n : Nat) (sh' : List xS) (M' : xM) (hcl : vwCl[ci]? = some (C, T, N)) (hin : ∀ w ∈ u_ws C T N, w ∈ xTW) (hty : ∀ k, k < N → parseFieldDescriptor (T k).2.2.1 = some (ty k)) (hw : Cond.classLink μ.1.cls idx C ∈ xTW ∧ Cond.instantiable C N ∈ xTW ∧ Cond.initialized C ∈ xTW) (hfs : ∀ j, j < N → (fs[j]? = some none ∧ defaultValue (ty j) = .int 0) ∨ (fs[j]? = some (some none) ∧ defaultValue (ty j) = .null)) (hk1 : kc + 1 ≤ μ.2.2.2.2.2.2.1) (hk2 : ks + N ≤ μ.2.2.2.2.2.2.2) (hn : sh.length = n) (hsh : sh ++ [.inr (ci, fs)] = sh') (hM : xn M n = M') (hd : decode μ.2.1 pc = .ok (.new idx, 3)) (k : X ξ μ (pc + 3) ls (.ref n :: st) sh' M' (kc + 1) (ks + N) Q) : X ξ μ pc ls st sh M kc ks Q := by
  subst hn; subst hsh; subst hM
  exact X_new fs ty hcl hin hty hw hfs hk1 hk2 hd k
theorem X_newaC {atype : ArrayType} {v : Int32} (tg N n : Nat) (sh' : List xS) (M' : xM) (hat : tg = 0 ∧ newarray.typeOf atype = .int) (hw : Cond.arrayClass (newarray.typeOf atype) ∈ xTW) (hv : ¬ v < 0) (hN : v.toNatClampNeg = N) (hb : N * 4 ≤ 536870912) (hk1 : kc + 1 ≤ μ.2.2.2.2.2.2.1) (hk2 : ks + N ≤ μ.2.2.2.2.2.2.2) (hn : sh.length = n) (hsh : sh ++ [.inl (tg, N, [])] = sh') (hM : xn M n = M') (hd : decode μ.2.1 pc = .ok (.newarray atype, 2)) (k : X ξ μ (pc + 2) ls (.ref n :: st) sh' M' (kc + 1) (ks + N) Q) : X ξ μ pc ls (.int v :: st) sh M kc ks Q := by
  subst hn; subst hsh; subst hM
  exact X_newa tg N hat hw hv hN hb hk1 hk2 hd k
theorem X_anewC {v : Int32} {idx : Nat} (N n : Nat) (sh' : List xS) (M' : xM) (hw : Cond.classLink μ.1.cls idx "SoundArchive$State" ∈ xTW) (ho : Cond.arrayOver (.object "SoundArchive$State") ∈ lw_tbl) (hv : ¬ v < 0) (hN : v.toNatClampNeg = N) (hb : N * 4 ≤ 536870912) (hk1 : kc + 1 ≤ μ.2.2.2.2.2.2.1) (hk2 : ks + N ≤ μ.2.2.2.2.2.2.2) (hn : sh.length = n) (hsh : sh ++ [.inl (2, N, [])] = sh') (hM : xn M n = M') (hd : decode μ.2.1 pc = .ok (.anewarray idx, 3)) (k : X ξ μ (pc + 3) ls (.ref n :: st) sh' M' (kc + 1) (ks + N) Q) : X ξ μ pc ls (.int v :: st) sh M kc ks Q := by
  subst hn; subst hsh; subst hM
  exact X_anew N hw ho hv hN hb hk1 hk2 hd k
theorem X_putIC {k0 idx ci j : Nat} {ty : FieldType} {nest : Bool} {fs : List (Option (Option Nat))} {v : Int32} (M' : xM) (hF : xF μ.1.cls idx ci j ty false nest) (hsh : sh[k0]? = some (.inr (ci, fs))) (hf : fs[j]? = some none) (hn : narrow ty (.int v) = .int v) (hfit : fits ty (.int v) = true) (hM : xw M k0 j v = M') (hd : decode μ.2.1 pc = .ok (.putfield idx, 3)) (k : X ξ μ (pc + 3) ls st sh M' kc ks Q) : X ξ μ pc ls (.int v :: .ref k0 :: st) sh M kc ks Q :=
  X_putI (z := M') (g := fun m => some m) hF hsh hf hn hfit hd (by rw [hM]; rfl) (fun M1 e => by cases e; exact k)
theorem X_putFIC {k0 idx ci j : Nat} {ty : FieldType} {fs : List (Option (Option Nat))} {v : Int32} (M' : xM) (hF : xF μ.1.cls idx ci j ty true false) (hin : μ.1.name = "<init>") (hC0 : ∀ q, vwCl[ci]? = some q → q.1 = μ.1.cls) (hsh : sh[k0]? = some (.inr (ci, fs))) (hf : fs[j]? = some none) (hn : narrow ty (.int v) = .int v) (hfit : fits ty (.int v) = true) (hM : xw M k0 j v = M') (hd : decode μ.2.1 pc = .ok (.putfield idx, 3)) (k : X ξ μ (pc + 3) ls st sh M' kc ks Q) : X ξ μ pc ls (.int v :: .ref k0 :: st) sh M kc ks Q :=
  X_putFI (z := M') (g := fun m => some m) hF hin hC0 hsh hf hn hfit hd (by rw [hM]; rfl) (fun M1 e => by cases e; exact k)
theorem X_iastC {k0 n : Nat} {rs : List (Option Nat)} {i v : Int32} (j : Nat) (M' : xM) (hsh : sh[k0]? = some (.inl (0, n, rs))) (hi : xin i n = true) (hj : i.toNatClampNeg = j) (hM : xw M k0 j v = M') (hd : decode μ.2.1 pc = .ok (.iastore, 1)) (k : X ξ μ (pc + 1) ls st sh M' kc ks Q) : X ξ μ pc ls (.int v :: .int i :: .ref k0 :: st) sh M kc ks Q := by
  subst hj
  exact X_iast (z := M') (g := fun m => some m) hsh hd (by rw [hM, hi]; rfl) (fun M1 e => by cases e; exact k)
theorem X_icmp_geT {x y : Int32} {off : Int} (tgt : Nat) (hd : decode μ.2.1 pc = .ok (.if_icmp .ge off, 3)) (ht : (pc : Int) + off = (tgt : Int)) (hc : y ≤ x) (k : X ξ μ tgt ls st sh M kc ks Q) : X ξ μ pc ls (.int y :: .int x :: st) sh M kc ks Q :=
  X_icmp_ge (z := true) (a := some true) (b := none) tgt hd ht (if_pos hc) (fun _ => k) (fun e => by cases e)
theorem X_icmp_geF {x y : Int32} {off : Int} (tgt : Nat) (hd : decode μ.2.1 pc = .ok (.if_icmp .ge off, 3)) (ht : (pc : Int) + off = (tgt : Int)) (hc : ¬ y ≤ x) (k : X ξ μ (pc + 3) ls st sh M kc ks Q) : X ξ μ pc ls (.int y :: .int x :: st) sh M kc ks Q :=
  X_icmp_ge (z := true) (a := none) (b := some true) tgt hd ht (if_neg hc) (fun e => by cases e) (fun _ => k)
theorem X_iC {k0 idx n : Nat} (as rest : List Value) (sh' : List xS) (M' : xM) (hLk : xLk μ.1.cls idx μ'.1) (hMk : xMkI μ' n) (hk : xkV μ μ' 1 kc ks n as rest = true) (hst : as.reverse ++ .ref k0 :: rest = st) (hd : decode μ.2.1 pc = .ok (.invokespecial idx, 3)) (hX : X ξ μ' 0 (.ref k0 :: as) [] sh M 0 0 (xr none sh' M')) (k : X ξ μ (pc + 3) ls rest sh' M' (kc + μ'.2.2.2.2.2.2.1) (ks + μ'.2.2.2.2.2.2.2) Q) : X ξ μ pc ls st sh M kc ks Q := by
  refine X_iG as rest hLk hMk hk hst hd hX (fun r s' m' hq => ?_)
  obtain ⟨rfl, rfl, rfl⟩ := hq
  exact k
theorem X_astoreC {i : Fin 4} {x : Nat} (ls' : List Value) (hd : decode μ.2.1 pc = .ok (.astore_n i, 1)) (hi : (i : Nat) ≤ ls.length) (hn : (i : Nat) < μ.2.2.1) (hc : ∀ u ∈ ls, u.category = 1) (hls : x_up ls i (.ref x) = ls') (k : X ξ μ (pc + 1) ls' st sh M kc ks Q) : X ξ μ pc ls (.ref x :: st) sh M kc ks Q := X_astore_n ls' hd hi hn hc hls k
end XCC

def cS_0 : List xS := []
def cL_0 : List (Nat × Nat × Int32) := []
def cS_1 : List xS := cS_0 ++ [.inr (6, [some none, some none, some none, some none, some none, some none, some none])]
def cS_2 : List xS := cS_1 ++ [.inr (3, [some none, some none, some none, some none, some none, some none, some none, some none, none, none])]
def cS_3 : List xS := cS_2 ++ [.inr (4, [some none, none, none])]
def cS_4 : List xS := cS_3 ++ [.inl (0, 56, [])]
def cS_5 : List xS := cS_4.set 2 (.inr (4, [some (some 3), none, none]))
def cL_1 : List (Nat × Nat × Int32) := (2, 1, 7) :: cL_0
def cS_6 : List xS := cS_5.set 1 (.inr (3, [some (some 2), some none, some none, some none, some none, some none, some none, some none, none, none]))
def cS_7 : List xS := cS_6 ++ [.inr (4, [some none, none, none])]
def cS_8 : List xS := cS_7 ++ [.inl (0, 24, [])]
def cS_9 : List xS := cS_8.set 4 (.inr (4, [some (some 5), none, none]))
def cL_2 : List (Nat × Nat × Int32) := (4, 1, 6) :: cL_1
def cS_10 : List xS := cS_9.set 1 (.inr (3, [some (some 2), some (some 4), some none, some none, some none, some none, some none, some none, none, none]))
def cS_11 : List xS := cS_10 ++ [.inr (4, [some none, none, none])]
def cS_12 : List xS := cS_11 ++ [.inl (0, 96, [])]
def cS_13 : List xS := cS_12.set 6 (.inr (4, [some (some 7), none, none]))
def cL_3 : List (Nat × Nat × Int32) := (6, 1, 6) :: cL_2
def cS_14 : List xS := cS_13.set 1 (.inr (3, [some (some 2), some (some 4), some (some 6), some none, some none, some none, some none, some none, none, none]))
def cS_15 : List xS := cS_14 ++ [.inr (4, [some none, none, none])]
def cS_16 : List xS := cS_15 ++ [.inl (0, 256, [])]
def cS_17 : List xS := cS_16.set 8 (.inr (4, [some (some 9), none, none]))
def cL_4 : List (Nat × Nat × Int32) := (8, 1, 4) :: cL_3
def cS_18 : List xS := cS_17.set 1 (.inr (3, [some (some 2), some (some 4), some (some 6), some (some 8), some none, some none, some none, some none, none, none]))
def cS_19 : List xS := cS_18 ++ [.inr (4, [some none, none, none])]
def cS_20 : List xS := cS_19 ++ [.inl (0, 264, [])]
def cS_21 : List xS := cS_20.set 10 (.inr (4, [some (some 11), none, none]))
def cL_5 : List (Nat × Nat × Int32) := (10, 1, 11) :: cL_4
def cS_22 : List xS := cS_21.set 1 (.inr (3, [some (some 2), some (some 4), some (some 6), some (some 8), some (some 10), some none, some none, some none, none, none]))
def cS_23 : List xS := cS_22 ++ [.inr (4, [some none, none, none])]
def cS_24 : List xS := cS_23 ++ [.inl (0, 120, [])]
def cS_25 : List xS := cS_24.set 12 (.inr (4, [some (some 13), none, none]))
def cL_6 : List (Nat × Nat × Int32) := (12, 1, 5) :: cL_5
def cS_26 : List xS := cS_25.set 1 (.inr (3, [some (some 2), some (some 4), some (some 6), some (some 8), some (some 10), some (some 12), some none, some none, none, none]))
def cS_27 : List xS := cS_26 ++ [.inr (4, [some none, none, none])]
def cS_28 : List xS := cS_27 ++ [.inl (0, 160, [])]
def cS_29 : List xS := cS_28.set 14 (.inr (4, [some (some 15), none, none]))
def cL_7 : List (Nat × Nat × Int32) := (14, 1, 10) :: cL_6
def cS_30 : List xS := cS_29.set 1 (.inr (3, [some (some 2), some (some 4), some (some 6), some (some 8), some (some 10), some (some 12), some (some 14), some none, none, none]))
def cS_31 : List xS := cS_30 ++ [.inr (4, [some none, none, none])]
def cS_32 : List xS := cS_31 ++ [.inl (0, 16, [])]
def cS_33 : List xS := cS_32.set 16 (.inr (4, [some (some 17), none, none]))
def cL_8 : List (Nat × Nat × Int32) := (16, 1, 2) :: cL_7
def cS_34 : List xS := cS_33.set 1 (.inr (3, [some (some 2), some (some 4), some (some 6), some (some 8), some (some 10), some (some 12), some (some 14), some (some 16), none, none]))
def cL_9 : List (Nat × Nat × Int32) := (8, 2, 64) :: cL_8
def cL_10 : List (Nat × Nat × Int32) := (16, 2, 8) :: cL_9
def cS_35 : List xS := cS_34.set 0 (.inr (6, [some (some 1), some none, some none, some none, some none, some none, some none]))
def cS_36 : List xS := cS_35 ++ [.inr (1, [some none, none, none])]
def cS_37 : List xS := cS_36 ++ [.inl (2, 5, [])]
def cS_38 : List xS := cS_37.set 18 (.inr (1, [some (some 19), none, none]))
def cS_39 : List xS := cS_38 ++ [.inr (3, [some none, some none, some none, some none, some none, some none, some none, some none, none, none])]
def cS_40 : List xS := cS_39 ++ [.inr (4, [some none, none, none])]
def cS_41 : List xS := cS_40 ++ [.inl (0, 56, [])]
def cS_42 : List xS := cS_41.set 21 (.inr (4, [some (some 22), none, none]))
def cL_11 : List (Nat × Nat × Int32) := (21, 1, 7) :: cL_10
def cS_43 : List xS := cS_42.set 20 (.inr (3, [some (some 21), some none, some none, some none, some none, some none, some none, some none, none, none]))
def cS_44 : List xS := cS_43 ++ [.inr (4, [some none, none, none])]
def cS_45 : List xS := cS_44 ++ [.inl (0, 24, [])]
def cS_46 : List xS := cS_45.set 23 (.inr (4, [some (some 24), none, none]))
def cL_12 : List (Nat × Nat × Int32) := (23, 1, 6) :: cL_11
def cS_47 : List xS := cS_46.set 20 (.inr (3, [some (some 21), some (some 23), some none, some none, some none, some none, some none, some none, none, none]))
def cS_48 : List xS := cS_47 ++ [.inr (4, [some none, none, none])]
def cS_49 : List xS := cS_48 ++ [.inl (0, 96, [])]
def cS_50 : List xS := cS_49.set 25 (.inr (4, [some (some 26), none, none]))
def cL_13 : List (Nat × Nat × Int32) := (25, 1, 6) :: cL_12
def cS_51 : List xS := cS_50.set 20 (.inr (3, [some (some 21), some (some 23), some (some 25), some none, some none, some none, some none, some none, none, none]))
def cS_52 : List xS := cS_51 ++ [.inr (4, [some none, none, none])]
def cS_53 : List xS := cS_52 ++ [.inl (0, 256, [])]
def cS_54 : List xS := cS_53.set 27 (.inr (4, [some (some 28), none, none]))
def cL_14 : List (Nat × Nat × Int32) := (27, 1, 4) :: cL_13
def cS_55 : List xS := cS_54.set 20 (.inr (3, [some (some 21), some (some 23), some (some 25), some (some 27), some none, some none, some none, some none, none, none]))
def cS_56 : List xS := cS_55 ++ [.inr (4, [some none, none, none])]
def cS_57 : List xS := cS_56 ++ [.inl (0, 264, [])]
def cS_58 : List xS := cS_57.set 29 (.inr (4, [some (some 30), none, none]))
def cL_15 : List (Nat × Nat × Int32) := (29, 1, 11) :: cL_14
def cS_59 : List xS := cS_58.set 20 (.inr (3, [some (some 21), some (some 23), some (some 25), some (some 27), some (some 29), some none, some none, some none, none, none]))
def cS_60 : List xS := cS_59 ++ [.inr (4, [some none, none, none])]
def cS_61 : List xS := cS_60 ++ [.inl (0, 120, [])]
def cS_62 : List xS := cS_61.set 31 (.inr (4, [some (some 32), none, none]))
def cL_16 : List (Nat × Nat × Int32) := (31, 1, 5) :: cL_15
def cS_63 : List xS := cS_62.set 20 (.inr (3, [some (some 21), some (some 23), some (some 25), some (some 27), some (some 29), some (some 31), some none, some none, none, none]))
def cS_64 : List xS := cS_63 ++ [.inr (4, [some none, none, none])]
def cS_65 : List xS := cS_64 ++ [.inl (0, 160, [])]
def cS_66 : List xS := cS_65.set 33 (.inr (4, [some (some 34), none, none]))
def cL_17 : List (Nat × Nat × Int32) := (33, 1, 10) :: cL_16
def cS_67 : List xS := cS_66.set 20 (.inr (3, [some (some 21), some (some 23), some (some 25), some (some 27), some (some 29), some (some 31), some (some 33), some none, none, none]))
def cS_68 : List xS := cS_67 ++ [.inr (4, [some none, none, none])]
def cS_69 : List xS := cS_68 ++ [.inl (0, 16, [])]
def cS_70 : List xS := cS_69.set 35 (.inr (4, [some (some 36), none, none]))
def cL_18 : List (Nat × Nat × Int32) := (35, 1, 2) :: cL_17
def cS_71 : List xS := cS_70.set 20 (.inr (3, [some (some 21), some (some 23), some (some 25), some (some 27), some (some 29), some (some 31), some (some 33), some (some 35), none, none]))
def cL_19 : List (Nat × Nat × Int32) := (27, 2, 64) :: cL_18
def cL_20 : List (Nat × Nat × Int32) := (35, 2, 8) :: cL_19
def cS_72 : List xS := cS_71.set 19 (.inl (2, 5, [some 20]))
def cS_73 : List xS := cS_72 ++ [.inr (3, [some none, some none, some none, some none, some none, some none, some none, some none, none, none])]
def cS_74 : List xS := cS_73 ++ [.inr (4, [some none, none, none])]
def cS_75 : List xS := cS_74 ++ [.inl (0, 56, [])]
def cS_76 : List xS := cS_75.set 38 (.inr (4, [some (some 39), none, none]))
def cL_21 : List (Nat × Nat × Int32) := (38, 1, 7) :: cL_20
def cS_77 : List xS := cS_76.set 37 (.inr (3, [some (some 38), some none, some none, some none, some none, some none, some none, some none, none, none]))
def cS_78 : List xS := cS_77 ++ [.inr (4, [some none, none, none])]
def cS_79 : List xS := cS_78 ++ [.inl (0, 24, [])]
def cS_80 : List xS := cS_79.set 40 (.inr (4, [some (some 41), none, none]))
def cL_22 : List (Nat × Nat × Int32) := (40, 1, 6) :: cL_21
def cS_81 : List xS := cS_80.set 37 (.inr (3, [some (some 38), some (some 40), some none, some none, some none, some none, some none, some none, none, none]))
def cS_82 : List xS := cS_81 ++ [.inr (4, [some none, none, none])]
def cS_83 : List xS := cS_82 ++ [.inl (0, 96, [])]
def cS_84 : List xS := cS_83.set 42 (.inr (4, [some (some 43), none, none]))
def cL_23 : List (Nat × Nat × Int32) := (42, 1, 6) :: cL_22
def cS_85 : List xS := cS_84.set 37 (.inr (3, [some (some 38), some (some 40), some (some 42), some none, some none, some none, some none, some none, none, none]))
def cS_86 : List xS := cS_85 ++ [.inr (4, [some none, none, none])]
def cS_87 : List xS := cS_86 ++ [.inl (0, 256, [])]
def cS_88 : List xS := cS_87.set 44 (.inr (4, [some (some 45), none, none]))
def cL_24 : List (Nat × Nat × Int32) := (44, 1, 4) :: cL_23
def cS_89 : List xS := cS_88.set 37 (.inr (3, [some (some 38), some (some 40), some (some 42), some (some 44), some none, some none, some none, some none, none, none]))
def cS_90 : List xS := cS_89 ++ [.inr (4, [some none, none, none])]
def cS_91 : List xS := cS_90 ++ [.inl (0, 264, [])]
def cS_92 : List xS := cS_91.set 46 (.inr (4, [some (some 47), none, none]))
def cL_25 : List (Nat × Nat × Int32) := (46, 1, 11) :: cL_24
def cS_93 : List xS := cS_92.set 37 (.inr (3, [some (some 38), some (some 40), some (some 42), some (some 44), some (some 46), some none, some none, some none, none, none]))
def cS_94 : List xS := cS_93 ++ [.inr (4, [some none, none, none])]
def cS_95 : List xS := cS_94 ++ [.inl (0, 120, [])]
def cS_96 : List xS := cS_95.set 48 (.inr (4, [some (some 49), none, none]))
def cL_26 : List (Nat × Nat × Int32) := (48, 1, 5) :: cL_25
def cS_97 : List xS := cS_96.set 37 (.inr (3, [some (some 38), some (some 40), some (some 42), some (some 44), some (some 46), some (some 48), some none, some none, none, none]))
def cS_98 : List xS := cS_97 ++ [.inr (4, [some none, none, none])]
def cS_99 : List xS := cS_98 ++ [.inl (0, 160, [])]
def cS_100 : List xS := cS_99.set 50 (.inr (4, [some (some 51), none, none]))
def cL_27 : List (Nat × Nat × Int32) := (50, 1, 10) :: cL_26
def cS_101 : List xS := cS_100.set 37 (.inr (3, [some (some 38), some (some 40), some (some 42), some (some 44), some (some 46), some (some 48), some (some 50), some none, none, none]))
def cS_102 : List xS := cS_101 ++ [.inr (4, [some none, none, none])]
def cS_103 : List xS := cS_102 ++ [.inl (0, 16, [])]
def cS_104 : List xS := cS_103.set 52 (.inr (4, [some (some 53), none, none]))
def cL_28 : List (Nat × Nat × Int32) := (52, 1, 2) :: cL_27
def cS_105 : List xS := cS_104.set 37 (.inr (3, [some (some 38), some (some 40), some (some 42), some (some 44), some (some 46), some (some 48), some (some 50), some (some 52), none, none]))
def cL_29 : List (Nat × Nat × Int32) := (44, 2, 64) :: cL_28
def cL_30 : List (Nat × Nat × Int32) := (52, 2, 8) :: cL_29
def cS_106 : List xS := cS_105.set 19 (.inl (2, 5, [some 20, some 37]))
def cS_107 : List xS := cS_106 ++ [.inr (3, [some none, some none, some none, some none, some none, some none, some none, some none, none, none])]
def cS_108 : List xS := cS_107 ++ [.inr (4, [some none, none, none])]
def cS_109 : List xS := cS_108 ++ [.inl (0, 56, [])]
def cS_110 : List xS := cS_109.set 55 (.inr (4, [some (some 56), none, none]))
def cL_31 : List (Nat × Nat × Int32) := (55, 1, 7) :: cL_30
def cS_111 : List xS := cS_110.set 54 (.inr (3, [some (some 55), some none, some none, some none, some none, some none, some none, some none, none, none]))
def cS_112 : List xS := cS_111 ++ [.inr (4, [some none, none, none])]
def cS_113 : List xS := cS_112 ++ [.inl (0, 24, [])]
def cS_114 : List xS := cS_113.set 57 (.inr (4, [some (some 58), none, none]))
def cL_32 : List (Nat × Nat × Int32) := (57, 1, 6) :: cL_31
def cS_115 : List xS := cS_114.set 54 (.inr (3, [some (some 55), some (some 57), some none, some none, some none, some none, some none, some none, none, none]))
def cS_116 : List xS := cS_115 ++ [.inr (4, [some none, none, none])]
def cS_117 : List xS := cS_116 ++ [.inl (0, 96, [])]
def cS_118 : List xS := cS_117.set 59 (.inr (4, [some (some 60), none, none]))
def cL_33 : List (Nat × Nat × Int32) := (59, 1, 6) :: cL_32
def cS_119 : List xS := cS_118.set 54 (.inr (3, [some (some 55), some (some 57), some (some 59), some none, some none, some none, some none, some none, none, none]))
def cS_120 : List xS := cS_119 ++ [.inr (4, [some none, none, none])]
def cS_121 : List xS := cS_120 ++ [.inl (0, 256, [])]
def cS_122 : List xS := cS_121.set 61 (.inr (4, [some (some 62), none, none]))
def cL_34 : List (Nat × Nat × Int32) := (61, 1, 4) :: cL_33
def cS_123 : List xS := cS_122.set 54 (.inr (3, [some (some 55), some (some 57), some (some 59), some (some 61), some none, some none, some none, some none, none, none]))
def cS_124 : List xS := cS_123 ++ [.inr (4, [some none, none, none])]
def cS_125 : List xS := cS_124 ++ [.inl (0, 264, [])]
def cS_126 : List xS := cS_125.set 63 (.inr (4, [some (some 64), none, none]))
def cL_35 : List (Nat × Nat × Int32) := (63, 1, 11) :: cL_34
def cS_127 : List xS := cS_126.set 54 (.inr (3, [some (some 55), some (some 57), some (some 59), some (some 61), some (some 63), some none, some none, some none, none, none]))
def cS_128 : List xS := cS_127 ++ [.inr (4, [some none, none, none])]
def cS_129 : List xS := cS_128 ++ [.inl (0, 120, [])]
def cS_130 : List xS := cS_129.set 65 (.inr (4, [some (some 66), none, none]))
def cL_36 : List (Nat × Nat × Int32) := (65, 1, 5) :: cL_35
def cS_131 : List xS := cS_130.set 54 (.inr (3, [some (some 55), some (some 57), some (some 59), some (some 61), some (some 63), some (some 65), some none, some none, none, none]))
def cS_132 : List xS := cS_131 ++ [.inr (4, [some none, none, none])]
def cS_133 : List xS := cS_132 ++ [.inl (0, 160, [])]
def cS_134 : List xS := cS_133.set 67 (.inr (4, [some (some 68), none, none]))
def cL_37 : List (Nat × Nat × Int32) := (67, 1, 10) :: cL_36
def cS_135 : List xS := cS_134.set 54 (.inr (3, [some (some 55), some (some 57), some (some 59), some (some 61), some (some 63), some (some 65), some (some 67), some none, none, none]))
def cS_136 : List xS := cS_135 ++ [.inr (4, [some none, none, none])]
def cS_137 : List xS := cS_136 ++ [.inl (0, 16, [])]
def cS_138 : List xS := cS_137.set 69 (.inr (4, [some (some 70), none, none]))
def cL_38 : List (Nat × Nat × Int32) := (69, 1, 2) :: cL_37
def cS_139 : List xS := cS_138.set 54 (.inr (3, [some (some 55), some (some 57), some (some 59), some (some 61), some (some 63), some (some 65), some (some 67), some (some 69), none, none]))
def cL_39 : List (Nat × Nat × Int32) := (61, 2, 64) :: cL_38
def cL_40 : List (Nat × Nat × Int32) := (69, 2, 8) :: cL_39
def cS_140 : List xS := cS_139.set 19 (.inl (2, 5, [some 20, some 37, some 54]))
def cS_141 : List xS := cS_140 ++ [.inr (3, [some none, some none, some none, some none, some none, some none, some none, some none, none, none])]
def cS_142 : List xS := cS_141 ++ [.inr (4, [some none, none, none])]
def cS_143 : List xS := cS_142 ++ [.inl (0, 56, [])]
def cS_144 : List xS := cS_143.set 72 (.inr (4, [some (some 73), none, none]))
def cL_41 : List (Nat × Nat × Int32) := (72, 1, 7) :: cL_40
def cS_145 : List xS := cS_144.set 71 (.inr (3, [some (some 72), some none, some none, some none, some none, some none, some none, some none, none, none]))
def cS_146 : List xS := cS_145 ++ [.inr (4, [some none, none, none])]
def cS_147 : List xS := cS_146 ++ [.inl (0, 24, [])]
def cS_148 : List xS := cS_147.set 74 (.inr (4, [some (some 75), none, none]))
def cL_42 : List (Nat × Nat × Int32) := (74, 1, 6) :: cL_41
def cS_149 : List xS := cS_148.set 71 (.inr (3, [some (some 72), some (some 74), some none, some none, some none, some none, some none, some none, none, none]))
def cS_150 : List xS := cS_149 ++ [.inr (4, [some none, none, none])]
def cS_151 : List xS := cS_150 ++ [.inl (0, 96, [])]
def cS_152 : List xS := cS_151.set 76 (.inr (4, [some (some 77), none, none]))
def cL_43 : List (Nat × Nat × Int32) := (76, 1, 6) :: cL_42
def cS_153 : List xS := cS_152.set 71 (.inr (3, [some (some 72), some (some 74), some (some 76), some none, some none, some none, some none, some none, none, none]))
def cS_154 : List xS := cS_153 ++ [.inr (4, [some none, none, none])]
def cS_155 : List xS := cS_154 ++ [.inl (0, 256, [])]
def cS_156 : List xS := cS_155.set 78 (.inr (4, [some (some 79), none, none]))
def cL_44 : List (Nat × Nat × Int32) := (78, 1, 4) :: cL_43
def cS_157 : List xS := cS_156.set 71 (.inr (3, [some (some 72), some (some 74), some (some 76), some (some 78), some none, some none, some none, some none, none, none]))
def cS_158 : List xS := cS_157 ++ [.inr (4, [some none, none, none])]
def cS_159 : List xS := cS_158 ++ [.inl (0, 264, [])]
def cS_160 : List xS := cS_159.set 80 (.inr (4, [some (some 81), none, none]))
def cL_45 : List (Nat × Nat × Int32) := (80, 1, 11) :: cL_44
def cS_161 : List xS := cS_160.set 71 (.inr (3, [some (some 72), some (some 74), some (some 76), some (some 78), some (some 80), some none, some none, some none, none, none]))
def cS_162 : List xS := cS_161 ++ [.inr (4, [some none, none, none])]
def cS_163 : List xS := cS_162 ++ [.inl (0, 120, [])]
def cS_164 : List xS := cS_163.set 82 (.inr (4, [some (some 83), none, none]))
def cL_46 : List (Nat × Nat × Int32) := (82, 1, 5) :: cL_45
def cS_165 : List xS := cS_164.set 71 (.inr (3, [some (some 72), some (some 74), some (some 76), some (some 78), some (some 80), some (some 82), some none, some none, none, none]))
def cS_166 : List xS := cS_165 ++ [.inr (4, [some none, none, none])]
def cS_167 : List xS := cS_166 ++ [.inl (0, 160, [])]
def cS_168 : List xS := cS_167.set 84 (.inr (4, [some (some 85), none, none]))
def cL_47 : List (Nat × Nat × Int32) := (84, 1, 10) :: cL_46
def cS_169 : List xS := cS_168.set 71 (.inr (3, [some (some 72), some (some 74), some (some 76), some (some 78), some (some 80), some (some 82), some (some 84), some none, none, none]))
def cS_170 : List xS := cS_169 ++ [.inr (4, [some none, none, none])]
def cS_171 : List xS := cS_170 ++ [.inl (0, 16, [])]
def cS_172 : List xS := cS_171.set 86 (.inr (4, [some (some 87), none, none]))
def cL_48 : List (Nat × Nat × Int32) := (86, 1, 2) :: cL_47
def cS_173 : List xS := cS_172.set 71 (.inr (3, [some (some 72), some (some 74), some (some 76), some (some 78), some (some 80), some (some 82), some (some 84), some (some 86), none, none]))
def cL_49 : List (Nat × Nat × Int32) := (78, 2, 64) :: cL_48
def cL_50 : List (Nat × Nat × Int32) := (86, 2, 8) :: cL_49
def cS_174 : List xS := cS_173.set 19 (.inl (2, 5, [some 20, some 37, some 54, some 71]))
def cS_175 : List xS := cS_174 ++ [.inr (3, [some none, some none, some none, some none, some none, some none, some none, some none, none, none])]
def cS_176 : List xS := cS_175 ++ [.inr (4, [some none, none, none])]
def cS_177 : List xS := cS_176 ++ [.inl (0, 56, [])]
def cS_178 : List xS := cS_177.set 89 (.inr (4, [some (some 90), none, none]))
def cL_51 : List (Nat × Nat × Int32) := (89, 1, 7) :: cL_50
def cS_179 : List xS := cS_178.set 88 (.inr (3, [some (some 89), some none, some none, some none, some none, some none, some none, some none, none, none]))
def cS_180 : List xS := cS_179 ++ [.inr (4, [some none, none, none])]
def cS_181 : List xS := cS_180 ++ [.inl (0, 24, [])]
def cS_182 : List xS := cS_181.set 91 (.inr (4, [some (some 92), none, none]))
def cL_52 : List (Nat × Nat × Int32) := (91, 1, 6) :: cL_51
def cS_183 : List xS := cS_182.set 88 (.inr (3, [some (some 89), some (some 91), some none, some none, some none, some none, some none, some none, none, none]))
def cS_184 : List xS := cS_183 ++ [.inr (4, [some none, none, none])]
def cS_185 : List xS := cS_184 ++ [.inl (0, 96, [])]
def cS_186 : List xS := cS_185.set 93 (.inr (4, [some (some 94), none, none]))
def cL_53 : List (Nat × Nat × Int32) := (93, 1, 6) :: cL_52
def cS_187 : List xS := cS_186.set 88 (.inr (3, [some (some 89), some (some 91), some (some 93), some none, some none, some none, some none, some none, none, none]))
def cS_188 : List xS := cS_187 ++ [.inr (4, [some none, none, none])]
def cS_189 : List xS := cS_188 ++ [.inl (0, 256, [])]
def cS_190 : List xS := cS_189.set 95 (.inr (4, [some (some 96), none, none]))
def cL_54 : List (Nat × Nat × Int32) := (95, 1, 4) :: cL_53
def cS_191 : List xS := cS_190.set 88 (.inr (3, [some (some 89), some (some 91), some (some 93), some (some 95), some none, some none, some none, some none, none, none]))
def cS_192 : List xS := cS_191 ++ [.inr (4, [some none, none, none])]
def cS_193 : List xS := cS_192 ++ [.inl (0, 264, [])]
def cS_194 : List xS := cS_193.set 97 (.inr (4, [some (some 98), none, none]))
def cL_55 : List (Nat × Nat × Int32) := (97, 1, 11) :: cL_54
def cS_195 : List xS := cS_194.set 88 (.inr (3, [some (some 89), some (some 91), some (some 93), some (some 95), some (some 97), some none, some none, some none, none, none]))
def cS_196 : List xS := cS_195 ++ [.inr (4, [some none, none, none])]
def cS_197 : List xS := cS_196 ++ [.inl (0, 120, [])]
def cS_198 : List xS := cS_197.set 99 (.inr (4, [some (some 100), none, none]))
def cL_56 : List (Nat × Nat × Int32) := (99, 1, 5) :: cL_55
def cS_199 : List xS := cS_198.set 88 (.inr (3, [some (some 89), some (some 91), some (some 93), some (some 95), some (some 97), some (some 99), some none, some none, none, none]))
def cS_200 : List xS := cS_199 ++ [.inr (4, [some none, none, none])]
def cS_201 : List xS := cS_200 ++ [.inl (0, 160, [])]
def cS_202 : List xS := cS_201.set 101 (.inr (4, [some (some 102), none, none]))
def cL_57 : List (Nat × Nat × Int32) := (101, 1, 10) :: cL_56
def cS_203 : List xS := cS_202.set 88 (.inr (3, [some (some 89), some (some 91), some (some 93), some (some 95), some (some 97), some (some 99), some (some 101), some none, none, none]))
def cS_204 : List xS := cS_203 ++ [.inr (4, [some none, none, none])]
def cS_205 : List xS := cS_204 ++ [.inl (0, 16, [])]
def cS_206 : List xS := cS_205.set 103 (.inr (4, [some (some 104), none, none]))
def cL_58 : List (Nat × Nat × Int32) := (103, 1, 2) :: cL_57
def cS_207 : List xS := cS_206.set 88 (.inr (3, [some (some 89), some (some 91), some (some 93), some (some 95), some (some 97), some (some 99), some (some 101), some (some 103), none, none]))
def cL_59 : List (Nat × Nat × Int32) := (95, 2, 64) :: cL_58
def cL_60 : List (Nat × Nat × Int32) := (103, 2, 8) :: cL_59
def cS_208 : List xS := cS_207.set 19 (.inl (2, 5, [some 20, some 37, some 54, some 71, some 88]))
def cS_209 : List xS := cS_208.set 0 (.inr (6, [some (some 1), some (some 18), some none, some none, some none, some none, some none]))
def cS_210 : List xS := cS_209 ++ [.inr (2, [some none, none])]
def cS_211 : List xS := cS_210 ++ [.inr (3, [some none, some none, some none, some none, some none, some none, some none, some none, none, none])]
def cS_212 : List xS := cS_211 ++ [.inr (4, [some none, none, none])]
def cS_213 : List xS := cS_212 ++ [.inl (0, 56, [])]
def cS_214 : List xS := cS_213.set 107 (.inr (4, [some (some 108), none, none]))
def cL_61 : List (Nat × Nat × Int32) := (107, 1, 7) :: cL_60
def cS_215 : List xS := cS_214.set 106 (.inr (3, [some (some 107), some none, some none, some none, some none, some none, some none, some none, none, none]))
def cS_216 : List xS := cS_215 ++ [.inr (4, [some none, none, none])]
def cS_217 : List xS := cS_216 ++ [.inl (0, 24, [])]
def cS_218 : List xS := cS_217.set 109 (.inr (4, [some (some 110), none, none]))
def cL_62 : List (Nat × Nat × Int32) := (109, 1, 6) :: cL_61
def cS_219 : List xS := cS_218.set 106 (.inr (3, [some (some 107), some (some 109), some none, some none, some none, some none, some none, some none, none, none]))
def cS_220 : List xS := cS_219 ++ [.inr (4, [some none, none, none])]
def cS_221 : List xS := cS_220 ++ [.inl (0, 96, [])]
def cS_222 : List xS := cS_221.set 111 (.inr (4, [some (some 112), none, none]))
def cL_63 : List (Nat × Nat × Int32) := (111, 1, 6) :: cL_62
def cS_223 : List xS := cS_222.set 106 (.inr (3, [some (some 107), some (some 109), some (some 111), some none, some none, some none, some none, some none, none, none]))
def cS_224 : List xS := cS_223 ++ [.inr (4, [some none, none, none])]
def cS_225 : List xS := cS_224 ++ [.inl (0, 256, [])]
def cS_226 : List xS := cS_225.set 113 (.inr (4, [some (some 114), none, none]))
def cL_64 : List (Nat × Nat × Int32) := (113, 1, 4) :: cL_63
def cS_227 : List xS := cS_226.set 106 (.inr (3, [some (some 107), some (some 109), some (some 111), some (some 113), some none, some none, some none, some none, none, none]))
def cS_228 : List xS := cS_227 ++ [.inr (4, [some none, none, none])]
def cS_229 : List xS := cS_228 ++ [.inl (0, 264, [])]
def cS_230 : List xS := cS_229.set 115 (.inr (4, [some (some 116), none, none]))
def cL_65 : List (Nat × Nat × Int32) := (115, 1, 11) :: cL_64
def cS_231 : List xS := cS_230.set 106 (.inr (3, [some (some 107), some (some 109), some (some 111), some (some 113), some (some 115), some none, some none, some none, none, none]))
def cS_232 : List xS := cS_231 ++ [.inr (4, [some none, none, none])]
def cS_233 : List xS := cS_232 ++ [.inl (0, 120, [])]
def cS_234 : List xS := cS_233.set 117 (.inr (4, [some (some 118), none, none]))
def cL_66 : List (Nat × Nat × Int32) := (117, 1, 5) :: cL_65
def cS_235 : List xS := cS_234.set 106 (.inr (3, [some (some 107), some (some 109), some (some 111), some (some 113), some (some 115), some (some 117), some none, some none, none, none]))
def cS_236 : List xS := cS_235 ++ [.inr (4, [some none, none, none])]
def cS_237 : List xS := cS_236 ++ [.inl (0, 160, [])]
def cS_238 : List xS := cS_237.set 119 (.inr (4, [some (some 120), none, none]))
def cL_67 : List (Nat × Nat × Int32) := (119, 1, 10) :: cL_66
def cS_239 : List xS := cS_238.set 106 (.inr (3, [some (some 107), some (some 109), some (some 111), some (some 113), some (some 115), some (some 117), some (some 119), some none, none, none]))
def cS_240 : List xS := cS_239 ++ [.inr (4, [some none, none, none])]
def cS_241 : List xS := cS_240 ++ [.inl (0, 16, [])]
def cS_242 : List xS := cS_241.set 121 (.inr (4, [some (some 122), none, none]))
def cL_68 : List (Nat × Nat × Int32) := (121, 1, 2) :: cL_67
def cS_243 : List xS := cS_242.set 106 (.inr (3, [some (some 107), some (some 109), some (some 111), some (some 113), some (some 115), some (some 117), some (some 119), some (some 121), none, none]))
def cL_69 : List (Nat × Nat × Int32) := (113, 2, 64) :: cL_68
def cL_70 : List (Nat × Nat × Int32) := (121, 2, 8) :: cL_69
def cS_244 : List xS := cS_243.set 105 (.inr (2, [some (some 106), none]))
def cS_245 : List xS := cS_244.set 0 (.inr (6, [some (some 1), some (some 18), some (some 105), some none, some none, some none, some none]))
def cS_246 : List xS := cS_245 ++ [.inr (2, [some none, none])]
def cS_247 : List xS := cS_246 ++ [.inr (3, [some none, some none, some none, some none, some none, some none, some none, some none, none, none])]
def cS_248 : List xS := cS_247 ++ [.inr (4, [some none, none, none])]
def cS_249 : List xS := cS_248 ++ [.inl (0, 56, [])]
def cS_250 : List xS := cS_249.set 125 (.inr (4, [some (some 126), none, none]))
def cL_71 : List (Nat × Nat × Int32) := (125, 1, 7) :: cL_70
def cS_251 : List xS := cS_250.set 124 (.inr (3, [some (some 125), some none, some none, some none, some none, some none, some none, some none, none, none]))
def cS_252 : List xS := cS_251 ++ [.inr (4, [some none, none, none])]
def cS_253 : List xS := cS_252 ++ [.inl (0, 24, [])]
def cS_254 : List xS := cS_253.set 127 (.inr (4, [some (some 128), none, none]))
def cL_72 : List (Nat × Nat × Int32) := (127, 1, 6) :: cL_71
def cS_255 : List xS := cS_254.set 124 (.inr (3, [some (some 125), some (some 127), some none, some none, some none, some none, some none, some none, none, none]))
def cS_256 : List xS := cS_255 ++ [.inr (4, [some none, none, none])]
def cS_257 : List xS := cS_256 ++ [.inl (0, 96, [])]
def cS_258 : List xS := cS_257.set 129 (.inr (4, [some (some 130), none, none]))
def cL_73 : List (Nat × Nat × Int32) := (129, 1, 6) :: cL_72
def cS_259 : List xS := cS_258.set 124 (.inr (3, [some (some 125), some (some 127), some (some 129), some none, some none, some none, some none, some none, none, none]))
def cS_260 : List xS := cS_259 ++ [.inr (4, [some none, none, none])]
def cS_261 : List xS := cS_260 ++ [.inl (0, 256, [])]
def cS_262 : List xS := cS_261.set 131 (.inr (4, [some (some 132), none, none]))
def cL_74 : List (Nat × Nat × Int32) := (131, 1, 4) :: cL_73
def cS_263 : List xS := cS_262.set 124 (.inr (3, [some (some 125), some (some 127), some (some 129), some (some 131), some none, some none, some none, some none, none, none]))
def cS_264 : List xS := cS_263 ++ [.inr (4, [some none, none, none])]
def cS_265 : List xS := cS_264 ++ [.inl (0, 264, [])]
def cS_266 : List xS := cS_265.set 133 (.inr (4, [some (some 134), none, none]))
def cL_75 : List (Nat × Nat × Int32) := (133, 1, 11) :: cL_74
def cS_267 : List xS := cS_266.set 124 (.inr (3, [some (some 125), some (some 127), some (some 129), some (some 131), some (some 133), some none, some none, some none, none, none]))
def cS_268 : List xS := cS_267 ++ [.inr (4, [some none, none, none])]
def cS_269 : List xS := cS_268 ++ [.inl (0, 120, [])]
def cS_270 : List xS := cS_269.set 135 (.inr (4, [some (some 136), none, none]))
def cL_76 : List (Nat × Nat × Int32) := (135, 1, 5) :: cL_75
def cS_271 : List xS := cS_270.set 124 (.inr (3, [some (some 125), some (some 127), some (some 129), some (some 131), some (some 133), some (some 135), some none, some none, none, none]))
def cS_272 : List xS := cS_271 ++ [.inr (4, [some none, none, none])]
def cS_273 : List xS := cS_272 ++ [.inl (0, 160, [])]
def cS_274 : List xS := cS_273.set 137 (.inr (4, [some (some 138), none, none]))
def cL_77 : List (Nat × Nat × Int32) := (137, 1, 10) :: cL_76
def cS_275 : List xS := cS_274.set 124 (.inr (3, [some (some 125), some (some 127), some (some 129), some (some 131), some (some 133), some (some 135), some (some 137), some none, none, none]))
def cS_276 : List xS := cS_275 ++ [.inr (4, [some none, none, none])]
def cS_277 : List xS := cS_276 ++ [.inl (0, 16, [])]
def cS_278 : List xS := cS_277.set 139 (.inr (4, [some (some 140), none, none]))
def cL_78 : List (Nat × Nat × Int32) := (139, 1, 2) :: cL_77
def cS_279 : List xS := cS_278.set 124 (.inr (3, [some (some 125), some (some 127), some (some 129), some (some 131), some (some 133), some (some 135), some (some 137), some (some 139), none, none]))
def cL_79 : List (Nat × Nat × Int32) := (131, 2, 64) :: cL_78
def cL_80 : List (Nat × Nat × Int32) := (139, 2, 8) :: cL_79
def cS_280 : List xS := cS_279.set 123 (.inr (2, [some (some 124), none]))
def cS_281 : List xS := cS_280.set 0 (.inr (6, [some (some 1), some (some 18), some (some 105), some (some 123), some none, some none, some none]))
def cS_282 : List xS := cS_281 ++ [.inr (5, [some none, some none, none])]
def cS_283 : List xS := cS_282 ++ [.inl (0, 80, [])]
def cS_284 : List xS := cS_283.set 141 (.inr (5, [some (some 142), some none, none]))
def cS_285 : List xS := cS_284 ++ [.inl (0, 4, [])]
def cS_286 : List xS := cS_285.set 141 (.inr (5, [some (some 142), some (some 143), none]))
def cS_287 : List xS := cS_286.set 0 (.inr (6, [some (some 1), some (some 18), some (some 105), some (some 123), some (some 141), some none, some none]))
def cS_288 : List xS := cS_287 ++ [.inr (0, [some none, some none, some none, none, none])]
def cS_289 : List xS := cS_288 ++ [.inl (0, 6, [])]
def cS_290 : List xS := cS_289.set 144 (.inr (0, [some (some 145), some none, some none, none, none]))
def cS_291 : List xS := cS_290 ++ [.inl (0, 24, [])]
def cS_292 : List xS := cS_291.set 144 (.inr (0, [some (some 145), some (some 146), some none, none, none]))
def cS_293 : List xS := cS_292 ++ [.inl (0, 64, [])]
def cS_294 : List xS := cS_293.set 144 (.inr (0, [some (some 145), some (some 146), some (some 147), none, none]))
def cS_295 : List xS := cS_294.set 0 (.inr (6, [some (some 1), some (some 18), some (some 105), some (some 123), some (some 141), some (some 144), some none]))
def cS_296 : List xS := cS_295 ++ [.inl (0, 5, [])]
def cS_297 : List xS := cS_296.set 0 (.inr (6, [some (some 1), some (some 18), some (some 105), some (some 123), some (some 141), some (some 144), some (some 148)]))
theorem kN_RX1_9 : Cond.classLink RX1 9 RX5 ∈ xTW ∧ Cond.instantiable RX5 10 ∈ xTW ∧ Cond.initialized RX5 ∈ xTW := ⟨xTW_m (List.mem_of_getElem? (i := 137) (by decide +kernel)) rfl, xTW_m (List.mem_of_getElem? (i := 63) (by decide +kernel)) rfl, xTW_m (List.mem_of_getElem? (i := 43) (by decide +kernel)) rfl⟩
theorem kN_anew : Cond.classLink RX1 9 "SoundArchive$State" ∈ xTW := xTW_m (List.mem_of_getElem? (i := 137) (by decide +kernel)) rfl
theorem kN_RX4_7 : Cond.classLink RX4 7 RX5 ∈ xTW ∧ Cond.instantiable RX5 10 ∈ xTW ∧ Cond.initialized RX5 ∈ xTW := ⟨xTW_m (List.mem_of_getElem? (i := 157) (by decide +kernel)) rfl, xTW_m (List.mem_of_getElem? (i := 63) (by decide +kernel)) rfl, xTW_m (List.mem_of_getElem? (i := 43) (by decide +kernel)) rfl⟩
theorem kN_RX5_9 : Cond.classLink RX5 9 RX6 ∈ xTW ∧ Cond.instantiable RX6 3 ∈ xTW ∧ Cond.initialized RX6 ∈ xTW := ⟨xTW_m (List.mem_of_getElem? (i := 68) (by decide +kernel)) rfl, xTW_m (List.mem_of_getElem? (i := 69) (by decide +kernel)) rfl, xTW_m (List.mem_of_getElem? (i := 44) (by decide +kernel)) rfl⟩
theorem kN_RX8_16 : Cond.classLink RX8 16 RX1 ∈ xTW ∧ Cond.instantiable RX1 3 ∈ xTW ∧ Cond.initialized RX1 ∈ xTW := ⟨xTW_m (List.mem_of_getElem? (i := 131) (by decide +kernel)) rfl, xTW_m (List.mem_of_getElem? (i := 132) (by decide +kernel)) rfl, xTW_m (List.mem_of_getElem? (i := 46) (by decide +kernel)) rfl⟩
theorem kN_RX8_23 : Cond.classLink RX8 23 RX4 ∈ xTW ∧ Cond.instantiable RX4 2 ∈ xTW ∧ Cond.initialized RX4 ∈ xTW := ⟨xTW_m (List.mem_of_getElem? (i := 151) (by decide +kernel)) rfl, xTW_m (List.mem_of_getElem? (i := 152) (by decide +kernel)) rfl, xTW_m (List.mem_of_getElem? (i := 47) (by decide +kernel)) rfl⟩
theorem kN_RX8_33 : Cond.classLink RX8 33 RX7 ∈ xTW ∧ Cond.instantiable RX7 3 ∈ xTW ∧ Cond.initialized RX7 ∈ xTW := ⟨xTW_m (List.mem_of_getElem? (i := 167) (by decide +kernel)) rfl, xTW_m (List.mem_of_getElem? (i := 168) (by decide +kernel)) rfl, xTW_m (List.mem_of_getElem? (i := 48) (by decide +kernel)) rfl⟩
theorem kN_RX8_40 : Cond.classLink RX8 40 RX0 ∈ xTW ∧ Cond.instantiable RX0 5 ∈ xTW ∧ Cond.initialized RX0 ∈ xTW := ⟨xTW_m (List.mem_of_getElem? (i := 183) (by decide +kernel)) rfl, xTW_m (List.mem_of_getElem? (i := 184) (by decide +kernel)) rfl, xTW_m (List.mem_of_getElem? (i := 49) (by decide +kernel)) rfl⟩
theorem kN_RX8_7 : Cond.classLink RX8 7 RX5 ∈ xTW ∧ Cond.instantiable RX5 10 ∈ xTW ∧ Cond.initialized RX5 ∈ xTW := ⟨xTW_m (List.mem_of_getElem? (i := 62) (by decide +kernel)) rfl, xTW_m (List.mem_of_getElem? (i := 63) (by decide +kernel)) rfl, xTW_m (List.mem_of_getElem? (i := 43) (by decide +kernel)) rfl⟩
theorem kN_RL_10 : Cond.classLink RL 10 RX8 ∈ xTW ∧ Cond.instantiable RX8 7 ∈ xTW ∧ Cond.initialized RX8 ∈ xTW := ⟨xTW_m (List.mem_of_getElem? (i := 54) (by decide +kernel)) rfl, xTW_m (List.mem_of_getElem? (i := 55) (by decide +kernel)) rfl, xTW_m (List.mem_of_getElem? (i := 42) (by decide +kernel)) rfl⟩
theorem kA_0 : Cond.arrayClass (newarray.typeOf .int) ∈ xTW := xTW_m (List.mem_of_getElem? (i := 89) (by decide +kernel)) rfl
theorem kA_over : Cond.arrayOver (.object "SoundArchive$State") ∈ lw_tbl := List.mem_of_getElem? (i := 138) (by decide +kernel)
theorem xrs_0 : ∀ j : Nat, (([some 20] : List (Option Nat))[j]?).getD none = if j = (0 : Int32).toNatClampNeg then some 20 else (([] : List (Option Nat))[j]?).getD none := by
  intro j
  have e : (0 : Int32).toNatClampNeg = 0 := by decide
  rw [e]
  match j with
  | 0 => rfl
  | j + 1 => simp
theorem xrs_1 : ∀ j : Nat, (([some 20, some 37] : List (Option Nat))[j]?).getD none = if j = (1 : Int32).toNatClampNeg then some 37 else (([some 20] : List (Option Nat))[j]?).getD none := by
  intro j
  have e : (1 : Int32).toNatClampNeg = 1 := by decide
  rw [e]
  match j with
  | 0 => rfl
  | 1 => rfl
  | j + 2 => simp
theorem xrs_2 : ∀ j : Nat, (([some 20, some 37, some 54] : List (Option Nat))[j]?).getD none = if j = (2 : Int32).toNatClampNeg then some 54 else (([some 20, some 37] : List (Option Nat))[j]?).getD none := by
  intro j
  have e : (2 : Int32).toNatClampNeg = 2 := by decide
  rw [e]
  match j with
  | 0 => rfl
  | 1 => rfl
  | 2 => rfl
  | j + 3 => simp
theorem xrs_3 : ∀ j : Nat, (([some 20, some 37, some 54, some 71] : List (Option Nat))[j]?).getD none = if j = (3 : Int32).toNatClampNeg then some 71 else (([some 20, some 37, some 54] : List (Option Nat))[j]?).getD none := by
  intro j
  have e : (3 : Int32).toNatClampNeg = 3 := by decide
  rw [e]
  match j with
  | 0 => rfl
  | 1 => rfl
  | 2 => rfl
  | 3 => rfl
  | j + 4 => simp
theorem xrs_4 : ∀ j : Nat, (([some 20, some 37, some 54, some 71, some 88] : List (Option Nat))[j]?).getD none = if j = (4 : Int32).toNatClampNeg then some 88 else (([some 20, some 37, some 54, some 71] : List (Option Nat))[j]?).getD none := by
  intro j
  have e : (4 : Int32).toNatClampNeg = 4 := by decide
  rw [e]
  match j with
  | 0 => rfl
  | 1 => rfl
  | 2 => rfl
  | 3 => rfl
  | 4 => rfl
  | j + 5 => simp
abbrev mIX6_1_56 : xD := (yX6_init, cX6_init, 3, none, 1, 21, 1, 56)
theorem kI_mIX6_1_56 : xMkI mIX6_1_56 2 := ⟨⟨by decide +kernel, xTW_m (List.mem_of_getElem? (i := 72) (by decide +kernel)) rfl, xTW_m (List.mem_of_getElem? (i := 44) (by decide +kernel)) rfl, by decide +kernel, by decide +kernel, by decide +kernel⟩, xTW_m (List.mem_of_getElem? (i := 71) (by decide +kernel)) rfl, rfl, rfl⟩
abbrev mIX6_1_24 : xD := (yX6_init, cX6_init, 3, none, 1, 21, 1, 24)
theorem kI_mIX6_1_24 : xMkI mIX6_1_24 2 := ⟨⟨by decide +kernel, xTW_m (List.mem_of_getElem? (i := 72) (by decide +kernel)) rfl, xTW_m (List.mem_of_getElem? (i := 44) (by decide +kernel)) rfl, by decide +kernel, by decide +kernel, by decide +kernel⟩, xTW_m (List.mem_of_getElem? (i := 71) (by decide +kernel)) rfl, rfl, rfl⟩
abbrev mIX6_1_96 : xD := (yX6_init, cX6_init, 3, none, 1, 21, 1, 96)
theorem kI_mIX6_1_96 : xMkI mIX6_1_96 2 := ⟨⟨by decide +kernel, xTW_m (List.mem_of_getElem? (i := 72) (by decide +kernel)) rfl, xTW_m (List.mem_of_getElem? (i := 44) (by decide +kernel)) rfl, by decide +kernel, by decide +kernel, by decide +kernel⟩, xTW_m (List.mem_of_getElem? (i := 71) (by decide +kernel)) rfl, rfl, rfl⟩
abbrev mIX6_1_256 : xD := (yX6_init, cX6_init, 3, none, 1, 21, 1, 256)
theorem kI_mIX6_1_256 : xMkI mIX6_1_256 2 := ⟨⟨by decide +kernel, xTW_m (List.mem_of_getElem? (i := 72) (by decide +kernel)) rfl, xTW_m (List.mem_of_getElem? (i := 44) (by decide +kernel)) rfl, by decide +kernel, by decide +kernel, by decide +kernel⟩, xTW_m (List.mem_of_getElem? (i := 71) (by decide +kernel)) rfl, rfl, rfl⟩
abbrev mIX6_1_264 : xD := (yX6_init, cX6_init, 3, none, 1, 21, 1, 264)
theorem kI_mIX6_1_264 : xMkI mIX6_1_264 2 := ⟨⟨by decide +kernel, xTW_m (List.mem_of_getElem? (i := 72) (by decide +kernel)) rfl, xTW_m (List.mem_of_getElem? (i := 44) (by decide +kernel)) rfl, by decide +kernel, by decide +kernel, by decide +kernel⟩, xTW_m (List.mem_of_getElem? (i := 71) (by decide +kernel)) rfl, rfl, rfl⟩
abbrev mIX6_1_120 : xD := (yX6_init, cX6_init, 3, none, 1, 21, 1, 120)
theorem kI_mIX6_1_120 : xMkI mIX6_1_120 2 := ⟨⟨by decide +kernel, xTW_m (List.mem_of_getElem? (i := 72) (by decide +kernel)) rfl, xTW_m (List.mem_of_getElem? (i := 44) (by decide +kernel)) rfl, by decide +kernel, by decide +kernel, by decide +kernel⟩, xTW_m (List.mem_of_getElem? (i := 71) (by decide +kernel)) rfl, rfl, rfl⟩
abbrev mIX6_1_160 : xD := (yX6_init, cX6_init, 3, none, 1, 21, 1, 160)
theorem kI_mIX6_1_160 : xMkI mIX6_1_160 2 := ⟨⟨by decide +kernel, xTW_m (List.mem_of_getElem? (i := 72) (by decide +kernel)) rfl, xTW_m (List.mem_of_getElem? (i := 44) (by decide +kernel)) rfl, by decide +kernel, by decide +kernel, by decide +kernel⟩, xTW_m (List.mem_of_getElem? (i := 71) (by decide +kernel)) rfl, rfl, rfl⟩
abbrev mIX6_1_16 : xD := (yX6_init, cX6_init, 3, none, 1, 21, 1, 16)
theorem kI_mIX6_1_16 : xMkI mIX6_1_16 2 := ⟨⟨by decide +kernel, xTW_m (List.mem_of_getElem? (i := 72) (by decide +kernel)) rfl, xTW_m (List.mem_of_getElem? (i := 44) (by decide +kernel)) rfl, by decide +kernel, by decide +kernel, by decide +kernel⟩, xTW_m (List.mem_of_getElem? (i := 71) (by decide +kernel)) rfl, rfl, rfl⟩
abbrev mIX5_16_1016 : xD := (yX5_init, cX5_init, 1, none, 2, 43, 16, 1016)
theorem kI_mIX5_16_1016 : xMkI mIX5_16_1016 0 := ⟨⟨by decide +kernel, xTW_m (List.mem_of_getElem? (i := 66) (by decide +kernel)) rfl, xTW_m (List.mem_of_getElem? (i := 43) (by decide +kernel)) rfl, by decide +kernel, by decide +kernel, by decide +kernel⟩, xTW_m (List.mem_of_getElem? (i := 65) (by decide +kernel)) rfl, rfl, rfl⟩
abbrev mIX1_86_5135 : xD := (yX1_init, cX1_init, 2, none, 3, 63, 86, 5135)
theorem kI_mIX1_86_5135 : xMkI mIX1_86_5135 0 := ⟨⟨by decide +kernel, xTW_m (List.mem_of_getElem? (i := 135) (by decide +kernel)) rfl, xTW_m (List.mem_of_getElem? (i := 46) (by decide +kernel)) rfl, by decide +kernel, by decide +kernel, by decide +kernel⟩, xTW_m (List.mem_of_getElem? (i := 134) (by decide +kernel)) rfl, rfl, rfl⟩
abbrev mIX4_17_1026 : xD := (yX4_init, cX4_init, 1, none, 3, 63, 17, 1026)
theorem kI_mIX4_17_1026 : xMkI mIX4_17_1026 0 := ⟨⟨by decide +kernel, xTW_m (List.mem_of_getElem? (i := 155) (by decide +kernel)) rfl, xTW_m (List.mem_of_getElem? (i := 47) (by decide +kernel)) rfl, by decide +kernel, by decide +kernel, by decide +kernel⟩, xTW_m (List.mem_of_getElem? (i := 154) (by decide +kernel)) rfl, rfl, rfl⟩
abbrev mIX7_2_84 : xD := (yX7_init, cX7_init, 1, none, 1, 12, 2, 84)
theorem kI_mIX7_2_84 : xMkI mIX7_2_84 0 := ⟨⟨by decide +kernel, xTW_m (List.mem_of_getElem? (i := 171) (by decide +kernel)) rfl, xTW_m (List.mem_of_getElem? (i := 48) (by decide +kernel)) rfl, by decide +kernel, by decide +kernel, by decide +kernel⟩, xTW_m (List.mem_of_getElem? (i := 170) (by decide +kernel)) rfl, rfl, rfl⟩
abbrev mIX0_3_94 : xD := (yX0_init, cX0_init, 1, none, 1, 12, 3, 94)
theorem kI_mIX0_3_94 : xMkI mIX0_3_94 0 := ⟨⟨by decide +kernel, xTW_m (List.mem_of_getElem? (i := 187) (by decide +kernel)) rfl, xTW_m (List.mem_of_getElem? (i := 49) (by decide +kernel)) rfl, by decide +kernel, by decide +kernel, by decide +kernel⟩, xTW_m (List.mem_of_getElem? (i := 186) (by decide +kernel)) rfl, rfl, rfl⟩
abbrev mIX8_148_8411 : xD := (yX8_init, cX8_init, 1, none, 4, 84, 148, 8411)
theorem kI_mIX8_148_8411 : xMkI mIX8_148_8411 0 := ⟨⟨by decide +kernel, xTW_m (List.mem_of_getElem? (i := 58) (by decide +kernel)) rfl, xTW_m (List.mem_of_getElem? (i := 42) (by decide +kernel)) rfl, by decide +kernel, by decide +kernel, by decide +kernel⟩, xTW_m (List.mem_of_getElem? (i := 57) (by decide +kernel)) rfl, rfl, rfl⟩
