theorem xl_e {α β : Type} (x : α) (f : α → β) : xl x f = f x := rfl
theorem xb_e {α β : Type} (v : α) (g : α → Option β) : xb (some v) g = g v := rfl
theorem xb2_e {β : Type} (v : Int32) (M : xM) (g : Int32 → xM → Option β) : xb2 (some (v, M)) g = g v M := rfl
theorem xgd_e {α : Type} (a : Option α) : xgd true a = a := rfl
theorem xgd_t {α : Type} {b : Bool} (a : Option α) (h : b = true) : xgd b a = a := by rw [h]; rfl
theorem xin_n {e n : Nat} (h : e < n) (hn : e < 2147483648) : xin (nI e) n = true := by
  have h1 : ¬ nI e < 0 := nI_pos (by simpa using hn)
  have h2 : (nI e).toNatClampNeg = e := nI_clamp (by simpa using hn)
  simp [xin, h1, h2, h]
theorem cl_n {e : Nat} (hn : e < 2147483648) : (nI e).toNatClampNeg = e := nI_clamp (by simpa using hn)
theorem xin_ex {a : Int32} {n : Nat} (h : xin a n = true) (hn : n < 2147483648) : ∃ r, r < n ∧ a = nI r := vp_in_of (xin_vp h) (by simpa using hn)
theorem lt_n {a b : Nat} (ha : a < 2147483648) (hb : b < 2147483648) : (nI a < nI b) = (a < b) := propext (nI_ltI (by simpa using ha) (by simpa using hb))
theorem le_n {a b : Nat} (ha : a < 2147483648) (hb : b < 2147483648) : (nI a ≤ nI b) = (a ≤ b) := propext (nI_leI (by simpa using ha) (by simpa using hb))
theorem eq_n {a b : Nat} (ha : a < 2147483648) (hb : b < 2147483648) : (nI a = nI b) = (a = b) := propext (nI_eq (by simpa using ha) (by simpa using hb))

theorem li_0 : (0 : Int32) = nI 0 := rfl
theorem ia_0 (k : Nat) : (0 : Int32) + nI k = nI (0 + k) := nI_add 0 k
theorem ir_0 (k : Nat) : nI k + (0 : Int32) = nI (k + 0) := nI_add k 0
theorem im_0 (k : Nat) : (0 : Int32) * nI k = nI (0 * k) := pk_mul 0 k
theorem ix_0 (k : Nat) : nI k * (0 : Int32) = nI (k * 0) := pk_mul k 0
theorem ic_0 : (0 : Int32).toNatClampNeg = 0 := rfl
theorem ia_1 (k : Nat) : (1 : Int32) + nI k = nI (1 + k) := nI_add 1 k
theorem ir_1 (k : Nat) : nI k + (1 : Int32) = nI (k + 1) := nI_add k 1
theorem im_1 (k : Nat) : (1 : Int32) * nI k = nI (1 * k) := pk_mul 1 k
theorem ix_1 (k : Nat) : nI k * (1 : Int32) = nI (k * 1) := pk_mul k 1
theorem ic_1 : (1 : Int32).toNatClampNeg = 1 := rfl
theorem ia_2 (k : Nat) : (2 : Int32) + nI k = nI (2 + k) := nI_add 2 k
theorem ir_2 (k : Nat) : nI k + (2 : Int32) = nI (k + 2) := nI_add k 2
theorem im_2 (k : Nat) : (2 : Int32) * nI k = nI (2 * k) := pk_mul 2 k
theorem ix_2 (k : Nat) : nI k * (2 : Int32) = nI (k * 2) := pk_mul k 2
theorem ic_2 : (2 : Int32).toNatClampNeg = 2 := rfl
theorem ia_3 (k : Nat) : (3 : Int32) + nI k = nI (3 + k) := nI_add 3 k
theorem ir_3 (k : Nat) : nI k + (3 : Int32) = nI (k + 3) := nI_add k 3
theorem im_3 (k : Nat) : (3 : Int32) * nI k = nI (3 * k) := pk_mul 3 k
theorem ix_3 (k : Nat) : nI k * (3 : Int32) = nI (k * 3) := pk_mul k 3
theorem ic_3 : (3 : Int32).toNatClampNeg = 3 := rfl
theorem li_4 : (4 : Int32) = nI 4 := rfl
theorem ia_4 (k : Nat) : (4 : Int32) + nI k = nI (4 + k) := nI_add 4 k
theorem ir_4 (k : Nat) : nI k + (4 : Int32) = nI (k + 4) := nI_add k 4
theorem im_4 (k : Nat) : (4 : Int32) * nI k = nI (4 * k) := pk_mul 4 k
theorem ix_4 (k : Nat) : nI k * (4 : Int32) = nI (k * 4) := pk_mul k 4
theorem ic_4 : (4 : Int32).toNatClampNeg = 4 := rfl
theorem ia_5 (k : Nat) : (5 : Int32) + nI k = nI (5 + k) := nI_add 5 k
theorem ir_5 (k : Nat) : nI k + (5 : Int32) = nI (k + 5) := nI_add k 5
theorem im_5 (k : Nat) : (5 : Int32) * nI k = nI (5 * k) := pk_mul 5 k
theorem ix_5 (k : Nat) : nI k * (5 : Int32) = nI (k * 5) := pk_mul k 5
theorem ic_5 : (5 : Int32).toNatClampNeg = 5 := rfl
theorem ia_6 (k : Nat) : (6 : Int32) + nI k = nI (6 + k) := nI_add 6 k
theorem ir_6 (k : Nat) : nI k + (6 : Int32) = nI (k + 6) := nI_add k 6
theorem im_6 (k : Nat) : (6 : Int32) * nI k = nI (6 * k) := pk_mul 6 k
theorem ix_6 (k : Nat) : nI k * (6 : Int32) = nI (k * 6) := pk_mul k 6
theorem ic_6 : (6 : Int32).toNatClampNeg = 6 := rfl
theorem ia_7 (k : Nat) : (7 : Int32) + nI k = nI (7 + k) := nI_add 7 k
theorem ir_7 (k : Nat) : nI k + (7 : Int32) = nI (k + 7) := nI_add k 7
theorem im_7 (k : Nat) : (7 : Int32) * nI k = nI (7 * k) := pk_mul 7 k
theorem ix_7 (k : Nat) : nI k * (7 : Int32) = nI (k * 7) := pk_mul k 7
theorem ic_7 : (7 : Int32).toNatClampNeg = 7 := rfl
theorem ia_8 (k : Nat) : (8 : Int32) + nI k = nI (8 + k) := nI_add 8 k
theorem ir_8 (k : Nat) : nI k + (8 : Int32) = nI (k + 8) := nI_add k 8
theorem im_8 (k : Nat) : (8 : Int32) * nI k = nI (8 * k) := pk_mul 8 k
theorem ix_8 (k : Nat) : nI k * (8 : Int32) = nI (k * 8) := pk_mul k 8
theorem ic_8 : (8 : Int32).toNatClampNeg = 8 := rfl
theorem ia_9 (k : Nat) : (9 : Int32) + nI k = nI (9 + k) := nI_add 9 k
theorem ir_9 (k : Nat) : nI k + (9 : Int32) = nI (k + 9) := nI_add k 9
theorem im_9 (k : Nat) : (9 : Int32) * nI k = nI (9 * k) := pk_mul 9 k
theorem ix_9 (k : Nat) : nI k * (9 : Int32) = nI (k * 9) := pk_mul k 9
theorem ic_9 : (9 : Int32).toNatClampNeg = 9 := rfl
theorem ia_10 (k : Nat) : (10 : Int32) + nI k = nI (10 + k) := nI_add 10 k
theorem ir_10 (k : Nat) : nI k + (10 : Int32) = nI (k + 10) := nI_add k 10
theorem im_10 (k : Nat) : (10 : Int32) * nI k = nI (10 * k) := pk_mul 10 k
theorem ix_10 (k : Nat) : nI k * (10 : Int32) = nI (k * 10) := pk_mul k 10
theorem ic_10 : (10 : Int32).toNatClampNeg = 10 := rfl
theorem ia_16 (k : Nat) : (16 : Int32) + nI k = nI (16 + k) := nI_add 16 k
theorem ir_16 (k : Nat) : nI k + (16 : Int32) = nI (k + 16) := nI_add k 16
theorem im_16 (k : Nat) : (16 : Int32) * nI k = nI (16 * k) := pk_mul 16 k
theorem ix_16 (k : Nat) : nI k * (16 : Int32) = nI (k * 16) := pk_mul k 16
theorem ic_16 : (16 : Int32).toNatClampNeg = 16 := rfl
theorem ia_24 (k : Nat) : (24 : Int32) + nI k = nI (24 + k) := nI_add 24 k
theorem ir_24 (k : Nat) : nI k + (24 : Int32) = nI (k + 24) := nI_add k 24
theorem im_24 (k : Nat) : (24 : Int32) * nI k = nI (24 * k) := pk_mul 24 k
theorem ix_24 (k : Nat) : nI k * (24 : Int32) = nI (k * 24) := pk_mul k 24
theorem ic_24 : (24 : Int32).toNatClampNeg = 24 := rfl
theorem ia_30 (k : Nat) : (30 : Int32) + nI k = nI (30 + k) := nI_add 30 k
theorem ir_30 (k : Nat) : nI k + (30 : Int32) = nI (k + 30) := nI_add k 30
theorem im_30 (k : Nat) : (30 : Int32) * nI k = nI (30 * k) := pk_mul 30 k
theorem ix_30 (k : Nat) : nI k * (30 : Int32) = nI (k * 30) := pk_mul k 30
theorem ic_30 : (30 : Int32).toNatClampNeg = 30 := rfl
theorem ia_31 (k : Nat) : (31 : Int32) + nI k = nI (31 + k) := nI_add 31 k
theorem ir_31 (k : Nat) : nI k + (31 : Int32) = nI (k + 31) := nI_add k 31
theorem im_31 (k : Nat) : (31 : Int32) * nI k = nI (31 * k) := pk_mul 31 k
theorem ix_31 (k : Nat) : nI k * (31 : Int32) = nI (k * 31) := pk_mul k 31
theorem ic_31 : (31 : Int32).toNatClampNeg = 31 := rfl
theorem ia_64 (k : Nat) : (64 : Int32) + nI k = nI (64 + k) := nI_add 64 k
theorem ir_64 (k : Nat) : nI k + (64 : Int32) = nI (k + 64) := nI_add k 64
theorem im_64 (k : Nat) : (64 : Int32) * nI k = nI (64 * k) := pk_mul 64 k
theorem ix_64 (k : Nat) : nI k * (64 : Int32) = nI (k * 64) := pk_mul k 64
theorem ic_64 : (64 : Int32).toNatClampNeg = 64 := rfl
theorem ia_80 (k : Nat) : (80 : Int32) + nI k = nI (80 + k) := nI_add 80 k
theorem ir_80 (k : Nat) : nI k + (80 : Int32) = nI (k + 80) := nI_add k 80
theorem im_80 (k : Nat) : (80 : Int32) * nI k = nI (80 * k) := pk_mul 80 k
theorem ix_80 (k : Nat) : nI k * (80 : Int32) = nI (k * 80) := pk_mul k 80
theorem ic_80 : (80 : Int32).toNatClampNeg = 80 := rfl
theorem ia_84 (k : Nat) : (84 : Int32) + nI k = nI (84 + k) := nI_add 84 k
theorem ir_84 (k : Nat) : nI k + (84 : Int32) = nI (k + 84) := nI_add k 84
theorem im_84 (k : Nat) : (84 : Int32) * nI k = nI (84 * k) := pk_mul 84 k
theorem ix_84 (k : Nat) : nI k * (84 : Int32) = nI (k * 84) := pk_mul k 84
theorem ic_84 : (84 : Int32).toNatClampNeg = 84 := rfl
theorem ia_100 (k : Nat) : (100 : Int32) + nI k = nI (100 + k) := nI_add 100 k
theorem ir_100 (k : Nat) : nI k + (100 : Int32) = nI (k + 100) := nI_add k 100
theorem im_100 (k : Nat) : (100 : Int32) * nI k = nI (100 * k) := pk_mul 100 k
theorem ix_100 (k : Nat) : nI k * (100 : Int32) = nI (k * 100) := pk_mul k 100
theorem ic_100 : (100 : Int32).toNatClampNeg = 100 := rfl
theorem ia_164 (k : Nat) : (164 : Int32) + nI k = nI (164 + k) := nI_add 164 k
theorem ir_164 (k : Nat) : nI k + (164 : Int32) = nI (k + 164) := nI_add k 164
theorem im_164 (k : Nat) : (164 : Int32) * nI k = nI (164 * k) := pk_mul 164 k
theorem ix_164 (k : Nat) : nI k * (164 : Int32) = nI (k * 164) := pk_mul k 164
theorem ic_164 : (164 : Int32).toNatClampNeg = 164 := rfl
theorem ia_420 (k : Nat) : (420 : Int32) + nI k = nI (420 + k) := nI_add 420 k
theorem ir_420 (k : Nat) : nI k + (420 : Int32) = nI (k + 420) := nI_add k 420
theorem im_420 (k : Nat) : (420 : Int32) * nI k = nI (420 * k) := pk_mul 420 k
theorem ix_420 (k : Nat) : nI k * (420 : Int32) = nI (k * 420) := pk_mul k 420
theorem ic_420 : (420 : Int32).toNatClampNeg = 420 := rfl
theorem ia_636 (k : Nat) : (636 : Int32) + nI k = nI (636 + k) := nI_add 636 k
theorem ir_636 (k : Nat) : nI k + (636 : Int32) = nI (k + 636) := nI_add k 636
theorem im_636 (k : Nat) : (636 : Int32) * nI k = nI (636 * k) := pk_mul 636 k
theorem ix_636 (k : Nat) : nI k * (636 : Int32) = nI (k * 636) := pk_mul k 636
theorem ic_636 : (636 : Int32).toNatClampNeg = 636 := rfl
theorem ia_756 (k : Nat) : (756 : Int32) + nI k = nI (756 + k) := nI_add 756 k
theorem ir_756 (k : Nat) : nI k + (756 : Int32) = nI (k + 756) := nI_add k 756
theorem im_756 (k : Nat) : (756 : Int32) * nI k = nI (756 * k) := pk_mul 756 k
theorem ix_756 (k : Nat) : nI k * (756 : Int32) = nI (k * 756) := pk_mul k 756
theorem ic_756 : (756 : Int32).toNatClampNeg = 756 := rfl
theorem ia_916 (k : Nat) : (916 : Int32) + nI k = nI (916 + k) := nI_add 916 k
theorem ir_916 (k : Nat) : nI k + (916 : Int32) = nI (k + 916) := nI_add k 916
theorem im_916 (k : Nat) : (916 : Int32) * nI k = nI (916 * k) := pk_mul 916 k
theorem ix_916 (k : Nat) : nI k * (916 : Int32) = nI (k * 916) := pk_mul k 916
theorem ic_916 : (916 : Int32).toNatClampNeg = 916 := rfl
theorem ia_3664 (k : Nat) : (3664 : Int32) + nI k = nI (3664 + k) := nI_add 3664 k
theorem ir_3664 (k : Nat) : nI k + (3664 : Int32) = nI (k + 3664) := nI_add k 3664
theorem im_3664 (k : Nat) : (3664 : Int32) * nI k = nI (3664 * k) := pk_mul 3664 k
theorem ix_3664 (k : Nat) : nI k * (3664 : Int32) = nI (k * 3664) := pk_mul k 3664
theorem ic_3664 : (3664 : Int32).toNatClampNeg = 3664 := rfl
theorem ia_4580 (k : Nat) : (4580 : Int32) + nI k = nI (4580 + k) := nI_add 4580 k
theorem ir_4580 (k : Nat) : nI k + (4580 : Int32) = nI (k + 4580) := nI_add k 4580
theorem im_4580 (k : Nat) : (4580 : Int32) * nI k = nI (4580 * k) := pk_mul 4580 k
theorem ix_4580 (k : Nat) : nI k * (4580 : Int32) = nI (k * 4580) := pk_mul k 4580
theorem ic_4580 : (4580 : Int32).toNatClampNeg = 4580 := rfl
theorem ia_9999 (k : Nat) : (9999 : Int32) + nI k = nI (9999 + k) := nI_add 9999 k
theorem ir_9999 (k : Nat) : nI k + (9999 : Int32) = nI (k + 9999) := nI_add k 9999
theorem im_9999 (k : Nat) : (9999 : Int32) * nI k = nI (9999 * k) := pk_mul 9999 k
theorem ix_9999 (k : Nat) : nI k * (9999 : Int32) = nI (k * 9999) := pk_mul k 9999
theorem ic_9999 : (9999 : Int32).toNatClampNeg = 9999 := rfl
theorem IA : (∀ k : Nat, (0 : Int32) + nI k = nI (0 + k)) ∧ (∀ k : Nat, (1 : Int32) + nI k = nI (1 + k)) ∧ (∀ k : Nat, (2 : Int32) + nI k = nI (2 + k)) ∧ (∀ k : Nat, (3 : Int32) + nI k = nI (3 + k)) ∧ (∀ k : Nat, (4 : Int32) + nI k = nI (4 + k)) ∧ (∀ k : Nat, (5 : Int32) + nI k = nI (5 + k)) ∧ (∀ k : Nat, (6 : Int32) + nI k = nI (6 + k)) ∧ (∀ k : Nat, (7 : Int32) + nI k = nI (7 + k)) ∧ (∀ k : Nat, (8 : Int32) + nI k = nI (8 + k)) ∧ (∀ k : Nat, (9 : Int32) + nI k = nI (9 + k)) ∧ (∀ k : Nat, (10 : Int32) + nI k = nI (10 + k)) ∧ (∀ k : Nat, (16 : Int32) + nI k = nI (16 + k)) ∧ (∀ k : Nat, (24 : Int32) + nI k = nI (24 + k)) ∧ (∀ k : Nat, (30 : Int32) + nI k = nI (30 + k)) ∧ (∀ k : Nat, (31 : Int32) + nI k = nI (31 + k)) ∧ (∀ k : Nat, (64 : Int32) + nI k = nI (64 + k)) ∧ (∀ k : Nat, (80 : Int32) + nI k = nI (80 + k)) ∧ (∀ k : Nat, (84 : Int32) + nI k = nI (84 + k)) ∧ (∀ k : Nat, (100 : Int32) + nI k = nI (100 + k)) ∧ (∀ k : Nat, (164 : Int32) + nI k = nI (164 + k)) ∧ (∀ k : Nat, (420 : Int32) + nI k = nI (420 + k)) ∧ (∀ k : Nat, (636 : Int32) + nI k = nI (636 + k)) ∧ (∀ k : Nat, (756 : Int32) + nI k = nI (756 + k)) ∧ (∀ k : Nat, (916 : Int32) + nI k = nI (916 + k)) ∧ (∀ k : Nat, (3664 : Int32) + nI k = nI (3664 + k)) ∧ (∀ k : Nat, (4580 : Int32) + nI k = nI (4580 + k)) ∧ (∀ k : Nat, (9999 : Int32) + nI k = nI (9999 + k)) := ⟨ia_0, ia_1, ia_2, ia_3, ia_4, ia_5, ia_6, ia_7, ia_8, ia_9, ia_10, ia_16, ia_24, ia_30, ia_31, ia_64, ia_80, ia_84, ia_100, ia_164, ia_420, ia_636, ia_756, ia_916, ia_3664, ia_4580, ia_9999⟩
theorem IR : (∀ k : Nat, nI k + (0 : Int32) = nI (k + 0)) ∧ (∀ k : Nat, nI k + (1 : Int32) = nI (k + 1)) ∧ (∀ k : Nat, nI k + (2 : Int32) = nI (k + 2)) ∧ (∀ k : Nat, nI k + (3 : Int32) = nI (k + 3)) ∧ (∀ k : Nat, nI k + (4 : Int32) = nI (k + 4)) ∧ (∀ k : Nat, nI k + (5 : Int32) = nI (k + 5)) ∧ (∀ k : Nat, nI k + (6 : Int32) = nI (k + 6)) ∧ (∀ k : Nat, nI k + (7 : Int32) = nI (k + 7)) ∧ (∀ k : Nat, nI k + (8 : Int32) = nI (k + 8)) ∧ (∀ k : Nat, nI k + (9 : Int32) = nI (k + 9)) ∧ (∀ k : Nat, nI k + (10 : Int32) = nI (k + 10)) ∧ (∀ k : Nat, nI k + (16 : Int32) = nI (k + 16)) ∧ (∀ k : Nat, nI k + (24 : Int32) = nI (k + 24)) ∧ (∀ k : Nat, nI k + (30 : Int32) = nI (k + 30)) ∧ (∀ k : Nat, nI k + (31 : Int32) = nI (k + 31)) ∧ (∀ k : Nat, nI k + (64 : Int32) = nI (k + 64)) ∧ (∀ k : Nat, nI k + (80 : Int32) = nI (k + 80)) ∧ (∀ k : Nat, nI k + (84 : Int32) = nI (k + 84)) ∧ (∀ k : Nat, nI k + (100 : Int32) = nI (k + 100)) ∧ (∀ k : Nat, nI k + (164 : Int32) = nI (k + 164)) ∧ (∀ k : Nat, nI k + (420 : Int32) = nI (k + 420)) ∧ (∀ k : Nat, nI k + (636 : Int32) = nI (k + 636)) ∧ (∀ k : Nat, nI k + (756 : Int32) = nI (k + 756)) ∧ (∀ k : Nat, nI k + (916 : Int32) = nI (k + 916)) ∧ (∀ k : Nat, nI k + (3664 : Int32) = nI (k + 3664)) ∧ (∀ k : Nat, nI k + (4580 : Int32) = nI (k + 4580)) ∧ (∀ k : Nat, nI k + (9999 : Int32) = nI (k + 9999)) := ⟨ir_0, ir_1, ir_2, ir_3, ir_4, ir_5, ir_6, ir_7, ir_8, ir_9, ir_10, ir_16, ir_24, ir_30, ir_31, ir_64, ir_80, ir_84, ir_100, ir_164, ir_420, ir_636, ir_756, ir_916, ir_3664, ir_4580, ir_9999⟩
theorem IM : (∀ k : Nat, (0 : Int32) * nI k = nI (0 * k)) ∧ (∀ k : Nat, (1 : Int32) * nI k = nI (1 * k)) ∧ (∀ k : Nat, (2 : Int32) * nI k = nI (2 * k)) ∧ (∀ k : Nat, (3 : Int32) * nI k = nI (3 * k)) ∧ (∀ k : Nat, (4 : Int32) * nI k = nI (4 * k)) ∧ (∀ k : Nat, (5 : Int32) * nI k = nI (5 * k)) ∧ (∀ k : Nat, (6 : Int32) * nI k = nI (6 * k)) ∧ (∀ k : Nat, (7 : Int32) * nI k = nI (7 * k)) ∧ (∀ k : Nat, (8 : Int32) * nI k = nI (8 * k)) ∧ (∀ k : Nat, (9 : Int32) * nI k = nI (9 * k)) ∧ (∀ k : Nat, (10 : Int32) * nI k = nI (10 * k)) ∧ (∀ k : Nat, (16 : Int32) * nI k = nI (16 * k)) ∧ (∀ k : Nat, (24 : Int32) * nI k = nI (24 * k)) ∧ (∀ k : Nat, (30 : Int32) * nI k = nI (30 * k)) ∧ (∀ k : Nat, (31 : Int32) * nI k = nI (31 * k)) ∧ (∀ k : Nat, (64 : Int32) * nI k = nI (64 * k)) ∧ (∀ k : Nat, (80 : Int32) * nI k = nI (80 * k)) ∧ (∀ k : Nat, (84 : Int32) * nI k = nI (84 * k)) ∧ (∀ k : Nat, (100 : Int32) * nI k = nI (100 * k)) ∧ (∀ k : Nat, (164 : Int32) * nI k = nI (164 * k)) ∧ (∀ k : Nat, (420 : Int32) * nI k = nI (420 * k)) ∧ (∀ k : Nat, (636 : Int32) * nI k = nI (636 * k)) ∧ (∀ k : Nat, (756 : Int32) * nI k = nI (756 * k)) ∧ (∀ k : Nat, (916 : Int32) * nI k = nI (916 * k)) ∧ (∀ k : Nat, (3664 : Int32) * nI k = nI (3664 * k)) ∧ (∀ k : Nat, (4580 : Int32) * nI k = nI (4580 * k)) ∧ (∀ k : Nat, (9999 : Int32) * nI k = nI (9999 * k)) := ⟨im_0, im_1, im_2, im_3, im_4, im_5, im_6, im_7, im_8, im_9, im_10, im_16, im_24, im_30, im_31, im_64, im_80, im_84, im_100, im_164, im_420, im_636, im_756, im_916, im_3664, im_4580, im_9999⟩
theorem IX : (∀ k : Nat, nI k * (0 : Int32) = nI (k * 0)) ∧ (∀ k : Nat, nI k * (1 : Int32) = nI (k * 1)) ∧ (∀ k : Nat, nI k * (2 : Int32) = nI (k * 2)) ∧ (∀ k : Nat, nI k * (3 : Int32) = nI (k * 3)) ∧ (∀ k : Nat, nI k * (4 : Int32) = nI (k * 4)) ∧ (∀ k : Nat, nI k * (5 : Int32) = nI (k * 5)) ∧ (∀ k : Nat, nI k * (6 : Int32) = nI (k * 6)) ∧ (∀ k : Nat, nI k * (7 : Int32) = nI (k * 7)) ∧ (∀ k : Nat, nI k * (8 : Int32) = nI (k * 8)) ∧ (∀ k : Nat, nI k * (9 : Int32) = nI (k * 9)) ∧ (∀ k : Nat, nI k * (10 : Int32) = nI (k * 10)) ∧ (∀ k : Nat, nI k * (16 : Int32) = nI (k * 16)) ∧ (∀ k : Nat, nI k * (24 : Int32) = nI (k * 24)) ∧ (∀ k : Nat, nI k * (30 : Int32) = nI (k * 30)) ∧ (∀ k : Nat, nI k * (31 : Int32) = nI (k * 31)) ∧ (∀ k : Nat, nI k * (64 : Int32) = nI (k * 64)) ∧ (∀ k : Nat, nI k * (80 : Int32) = nI (k * 80)) ∧ (∀ k : Nat, nI k * (84 : Int32) = nI (k * 84)) ∧ (∀ k : Nat, nI k * (100 : Int32) = nI (k * 100)) ∧ (∀ k : Nat, nI k * (164 : Int32) = nI (k * 164)) ∧ (∀ k : Nat, nI k * (420 : Int32) = nI (k * 420)) ∧ (∀ k : Nat, nI k * (636 : Int32) = nI (k * 636)) ∧ (∀ k : Nat, nI k * (756 : Int32) = nI (k * 756)) ∧ (∀ k : Nat, nI k * (916 : Int32) = nI (k * 916)) ∧ (∀ k : Nat, nI k * (3664 : Int32) = nI (k * 3664)) ∧ (∀ k : Nat, nI k * (4580 : Int32) = nI (k * 4580)) ∧ (∀ k : Nat, nI k * (9999 : Int32) = nI (k * 9999)) := ⟨ix_0, ix_1, ix_2, ix_3, ix_4, ix_5, ix_6, ix_7, ix_8, ix_9, ix_10, ix_16, ix_24, ix_30, ix_31, ix_64, ix_80, ix_84, ix_100, ix_164, ix_420, ix_636, ix_756, ix_916, ix_3664, ix_4580, ix_9999⟩
theorem IC : ((0 : Int32).toNatClampNeg = 0) ∧ ((1 : Int32).toNatClampNeg = 1) ∧ ((2 : Int32).toNatClampNeg = 2) ∧ ((3 : Int32).toNatClampNeg = 3) ∧ ((4 : Int32).toNatClampNeg = 4) ∧ ((5 : Int32).toNatClampNeg = 5) ∧ ((6 : Int32).toNatClampNeg = 6) ∧ ((7 : Int32).toNatClampNeg = 7) ∧ ((8 : Int32).toNatClampNeg = 8) ∧ ((9 : Int32).toNatClampNeg = 9) ∧ ((10 : Int32).toNatClampNeg = 10) ∧ ((16 : Int32).toNatClampNeg = 16) ∧ ((24 : Int32).toNatClampNeg = 24) ∧ ((30 : Int32).toNatClampNeg = 30) ∧ ((31 : Int32).toNatClampNeg = 31) ∧ ((64 : Int32).toNatClampNeg = 64) ∧ ((80 : Int32).toNatClampNeg = 80) ∧ ((84 : Int32).toNatClampNeg = 84) ∧ ((100 : Int32).toNatClampNeg = 100) ∧ ((164 : Int32).toNatClampNeg = 164) ∧ ((420 : Int32).toNatClampNeg = 420) ∧ ((636 : Int32).toNatClampNeg = 636) ∧ ((756 : Int32).toNatClampNeg = 756) ∧ ((916 : Int32).toNatClampNeg = 916) ∧ ((3664 : Int32).toNatClampNeg = 3664) ∧ ((4580 : Int32).toNatClampNeg = 4580) ∧ ((9999 : Int32).toNatClampNeg = 9999) := ⟨ic_0, ic_1, ic_2, ic_3, ic_4, ic_5, ic_6, ic_7, ic_8, ic_9, ic_10, ic_16, ic_24, ic_30, ic_31, ic_64, ic_80, ic_84, ic_100, ic_164, ic_420, ic_636, ic_756, ic_916, ic_3664, ic_4580, ic_9999⟩
theorem IN : (xin 0 4 = true) ∧ (xin 0 5 = true) ∧ (xin 0 916 = true) ∧ (xin 1 4 = true) ∧ (xin 1 5 = true) ∧ (xin 1 916 = true) ∧ (xin 2 4 = true) ∧ (xin 2 5 = true) ∧ (xin 2 916 = true) ∧ (xin 3 4 = true) ∧ (xin 3 5 = true) ∧ (xin 3 916 = true) ∧ (xin 4 5 = true) ∧ (xin 4 916 = true) ∧ (xin 5 916 = true) ∧ (xin 6 916 = true) ∧ (xin 7 916 = true) := ⟨rfl, rfl, rfl, rfl, rfl, rfl, rfl, rfl, rfl, rfl, rfl, rfl, rfl, rfl, rfl, rfl, rfl⟩
def bI (p : Prop) [Decidable p] : Int32 := if p then 1 else 0
theorem bI_0 (p : Prop) [Decidable p] : (bI p = 0) = ¬ p := by
  unfold bI
  by_cases h : p
  · simp [h]
  · simp [h]
theorem bI_1 (p : Prop) [Decidable p] : (bI p = 1) = p := by
  unfold bI
  by_cases h : p
  · simp [h]
  · simp [h]
theorem bI_z (p : Prop) [Decidable p] : xz (bI p) = true := by
  unfold bI
  by_cases h : p
  · simp [h, xz]
  · simp [h, xz]
theorem in_e : f_X9_in = f_X8_isWithin := rfl
theorem wi_e (a b c : Int32) : f_X8_isWithin a b c = some (bI (b ≤ a ∧ a ≤ c)) := by
  unfold f_X8_isWithin bI
  by_cases h : a < b
  · have h1 : ¬ b ≤ a := Int32.not_le.mpr h
    simp [h, h1]
  · have h1 : b ≤ a := Int32.not_lt.mp h
    by_cases h2 : c < a
    · have h3 : ¬ a ≤ c := Int32.not_le.mpr h2
      simp [h, h2, h3]
    · have h3 : a ≤ c := Int32.not_lt.mp h2
      simp [h, h2, h1, h3]
def cN (p : Nat → Bool) : Nat → Nat
  | 0 => 0
  | n + 1 => cN p n + (if p n = true then 1 else 0)
theorem cN_le (p : Nat → Bool) : ∀ n, cN p n ≤ n
  | 0 => Nat.le_refl _
  | n + 1 => by
    have := cN_le p n
    unfold cN
    split <;> omega
theorem cN_congr {p q : Nat → Bool} : ∀ {n : Nat}, (∀ k, k < n → p k = q k) → cN p n = cN q n
  | 0, _ => rfl
  | n + 1, h => by
    unfold cN
    rw [cN_congr (fun k hk => h k (by omega)), h n (by omega)]
theorem cN_zero {p : Nat → Bool} : ∀ {n : Nat}, (∀ k, k < n → p k = false) → cN p n = 0
  | 0, _ => rfl
  | n + 1, h => by
    unfold cN
    rw [cN_zero (fun k hk => h k (by omega)), h n (by omega)]
    rfl
def nN (V : Nat → Int32) (i : Nat) : Nat := (V i).toNatClampNeg
def rg (x : Int32) (a b : Int) : Prop := a ≤ x.toInt ∧ x.toInt ≤ b
def EncRaw (V : Nat → Int32) (M : xM) (b : Nat) : Prop :=
  (∀ r c, r < 8 → c < 5 → M (b + 2) (r * 7 + c) = V (24 + 5 * r + c)) ∧
  (∀ r c, r < 4 → c < 5 → M (b + 4) (r * 6 + c) = V (64 + 5 * r + c)) ∧
  (∀ r c, r < 16 → c < 4 → M (b + 6) (r * 6 + c) = V (84 + 5 * r + c)) ∧
  (∀ r, r < 16 → M (b + 6) (r * 6 + 5) = V (84 + 5 * r + 4)) ∧
  (∀ r c, r < 64 → c < 4 → M (b + 8) (r * 4 + c) = V (164 + 4 * r + c)) ∧
  (∀ r c, r < 24 → c < 5 → M (b + 10) (r * 11 + c) = V (420 + 9 * r + c)) ∧
  (∀ r c, r < 24 → c < 4 → M (b + 10) (r * 11 + (7 + c)) = V (420 + 9 * r + 5 + c)) ∧
  (∀ r c, r < 24 → c < 5 → M (b + 12) (r * 5 + c) = V (636 + 5 * r + c)) ∧
  (∀ r c, r < 16 → c < 10 → M (b + 14) (r * 10 + c) = V (756 + 10 * r + c)) ∧
  (∀ r, r < 8 → M (b + 16) (r * 2 + 0) = V (8 + r)) ∧
  (∀ r, r < 8 → M (b + 16) (r * 2 + 1) = V (16 + r)) ∧
  M b 8 = V 0 ∧ M b 9 = V 7 ∧ M (b + 1) 2 = V 1 ∧ M (b + 3) 2 = V 2 ∧ M (b + 5) 2 = V 3 ∧ M (b + 9) 2 = V 4 ∧ M (b + 11) 2 = V 5 ∧ M (b + 13) 2 = V 6
def EncCol (M : xM) (b : Nat) : Prop :=
  M (b + 1) 1 = nI 7 ∧ M (b + 3) 1 = nI 6 ∧ M (b + 5) 1 = nI 6 ∧ M (b + 7) 1 = nI 4 ∧ M (b + 9) 1 = nI 11 ∧ M (b + 11) 1 = nI 5 ∧ M (b + 13) 1 = nI 10 ∧ M (b + 15) 1 = nI 2 ∧ M (b + 7) 2 = nI 64 ∧ M (b + 15) 2 = nI 8
def psO (V : Nat → Int32) (r : Nat) : Nat := cN (fun p => decide (V (420 + 9 * p) = nI r)) (nN V 4)
def rcO (V : Nat → Int32) (r : Nat) : Nat := cN (fun q => decide (V (84 + 5 * q) = nI r)) (nN V 3)
def pmO (V : Nat → Int32) (r : Nat) : Nat := cN (fun p => decide (V (420 + 9 * p + 1) = nI r)) (nN V 4)
def lyR (V : Nat → Int32) (r : Nat) : Int32 := V (24 + 5 * nN V (84 + 5 * r) + 2)
def lyP (V : Nat → Int32) (p : Nat) : Int32 := V (24 + 5 * nN V (420 + 9 * p) + 2)
def tB (c : Prop) [Decidable c] (t : Int32) : Int32 := if c then (1 : Int32) <<< (t &&& 31) else 0
def tkO (V : Nat → Int32) (p : Nat) : Int32 :=
  (((0 ||| tB (0 < V (420 + 9 * p + 5 + 0)) 0) ||| tB (0 < V (420 + 9 * p + 5 + 1)) 1) ||| tB (0 < V (420 + 9 * p + 5 + 2)) 2) ||| tB (0 < V (420 + 9 * p + 5 + 3)) 3
def sdT (l t : Int32) : Int32 := if l = 0 then 0 else if l = 1 then t else if l = 2 then t - t / 2 * 2 else t / 2
def bkO (V : Nat → Int32) (p : Nat) : Int32 :=
  (((0 ||| tB (0 < V (420 + 9 * p + 5 + 0) ∧ sdT (lyP V p) 0 ≠ V (420 + 9 * p + 3)) 0) ||| tB (0 < V (420 + 9 * p + 5 + 1) ∧ sdT (lyP V p) 1 ≠ V (420 + 9 * p + 3)) 1) ||| tB (0 < V (420 + 9 * p + 5 + 2) ∧ sdT (lyP V p) 2 ≠ V (420 + 9 * p + 3)) 2) ||| tB (0 < V (420 + 9 * p + 5 + 3) ∧ sdT (lyP V p) 3 ≠ V (420 + 9 * p + 3)) 3
def EncDer (V : Nat → Int32) (M : xM) (b : Nat) : Prop :=
  (∀ r, r < 8 → M (b + 2) (r * 7 + 5) = nI (psO V r)) ∧
  (∀ r, r < 8 → M (b + 2) (r * 7 + 6) = nI (rcO V r)) ∧
  (∀ r, r < 4 → M (b + 4) (r * 6 + 5) = nI (pmO V r)) ∧
  (∀ r, r < nN V 3 → f_X9_sideOfAll (lyR V r) (V (84 + 5 * r + 1)) = some (M (b + 6) (r * 6 + 4)) ∧ ¬ M (b + 6) (r * 6 + 4) < 0) ∧
  (∀ p, p < nN V 4 → M (b + 10) (p * 11 + 5) = tkO V p) ∧
  (∀ p, p < nN V 4 → M (b + 10) (p * 11 + 6) = bkO V p)
def OkN (V : Nat → Int32) : Prop := V 1 = nI (nN V 1) ∧ nN V 1 ≤ 8 ∧ V 2 = nI (nN V 2) ∧ nN V 2 ≤ 4 ∧ V 3 = nI (nN V 3) ∧ nN V 3 ≤ 16 ∧ V 4 = nI (nN V 4) ∧ nN V 4 ≤ 24 ∧ V 5 = nI (nN V 5) ∧ nN V 5 ≤ 24 ∧ V 6 = nI (nN V 6) ∧ nN V 6 ≤ 16 ∧ rg (V 0) 0 9999
def OkC (V : Nat → Int32) (r : Nat) : Prop := rg (V (24 + 5 * r)) 0 2 ∧ rg (V (24 + 5 * r + 1)) 1 380 ∧ rg (V (24 + 5 * r + 2)) 0 3 ∧ rg (V (24 + 5 * r + 3)) 1 3600
def OkM (V : Nat → Int32) (r : Nat) : Prop := rg (V (64 + 5 * r)) 0 2 ∧ rg (V (64 + 5 * r + 1)) 1 7 ∧ rg (V (64 + 5 * r + 2)) 0 3 ∧ rg (V (64 + 5 * r + 3)) 1 100
def OkR (V : Nat → Int32) (r : Nat) : Prop := V (84 + 5 * r) = nI (nN V (84 + 5 * r)) ∧ nN V (84 + 5 * r) < nN V 1 ∧ rg (V (84 + 5 * r + 1)) 1 15 ∧ rg (V (84 + 5 * r + 2)) 0 3600 ∧ rg (V (84 + 5 * r + 3)) 0 3600 ∧ V (84 + 5 * r + 4) = nI (nN V (84 + 5 * r + 4)) ∧ nN V (84 + 5 * r + 4) ≤ 4
def OkT (V : Nat → Int32) (j : Nat) : Prop := rg (V (164 + 4 * j)) 0 3600 ∧ rg (V (164 + 4 * j + 1)) 0 3600 ∧ V (164 + 4 * j + 2) = nI (nN V (164 + 4 * j + 2)) ∧ nN V (164 + 4 * j + 2) < 8
def OkP (V : Nat → Int32) (p : Nat) : Prop := V (420 + 9 * p) = nI (nN V (420 + 9 * p)) ∧ nN V (420 + 9 * p) < nN V 1 ∧ V (420 + 9 * p + 1) = nI (nN V (420 + 9 * p + 1)) ∧ nN V (420 + 9 * p + 1) < nN V 2 ∧ (∀ t, t < 4 → rg (V (420 + 9 * p + 5 + t)) 0 100)
def OkQ (V : Nat → Int32) (r : Nat) : Prop := V (756 + 10 * r + 1) = nI (nN V (756 + 10 * r + 1)) ∧ nN V (756 + 10 * r + 1) < 8 ∧ V (756 + 10 * r + 2) = nI (nN V (756 + 10 * r + 2)) ∧ nN V (756 + 10 * r + 2) < nN V 3 ∧ rg (V (756 + 10 * r + 3)) 0 3600 ∧ rg (V (756 + 10 * r + 4)) 0 3600 ∧ rg (V (756 + 10 * r + 5)) 0 2 ∧ rg (V (756 + 10 * r + 6)) 1 100 ∧ rg (V (756 + 10 * r + 7)) 0 9999 ∧ (V (756 + 10 * r) = 0 → V (756 + 10 * r + 9) = 0)
def Ok (V : Nat → Int32) : Prop := OkN V ∧ (∀ r, r < nN V 1 → OkC V r) ∧ (∀ r, r < nN V 2 → OkM V r) ∧ (∀ r, r < nN V 3 → OkR V r) ∧ (∀ r, nN V 3 ≤ r → r < 16 → V (84 + 5 * r + 4) = 0) ∧ (∀ r k, r < nN V 3 → k < nN V (84 + 5 * r + 4) → OkT V (4 * r + k)) ∧ (∀ p, p < nN V 4 → OkP V p) ∧ (∀ r, r < nN V 5 → V (636 + 5 * r + 4) = 0 ∨ V (636 + 5 * r + 4) = 1) ∧ (∀ r, nN V 5 ≤ r → r < 24 → V (636 + 5 * r + 4) = 0) ∧ (∀ r, r < nN V 6 → OkQ V r) ∧ (∀ r, nN V 6 ≤ r → r < 16 → V (756 + 10 * r + 9) = 0)
def Enc (V : Nat → Int32) (M : xM) (b : Nat) : Prop := EncRaw V M b ∧ EncDer V M b ∧ Ok V
def RefK (M : xM) : Prop := (∀ j, j < 9 → M 155 j = xSpI j) ∧ (∀ j, j < 3 → M 156 j = (([10, 7, 10] : List Int32)[j]?).getD 0)
def Vw (V : Nat → Int32) (M : xM) : Prop := True ∧ Enc V M 1 ∧ EncCol M 1 ∧ True

theorem T_get {t ct n rows cols : Nat} {M : xM} (h2 : M t 2 = nI rows) (h1 : M t 1 = nI cols) {r : Nat} {c : Int32} (k : Nat) (hr : r < rows) (hc : c = nI k) (hk : k < cols) (hrc : rows * cols ≤ n) (hn : n < 100000) (hrows : rows < 100000) (hcols : cols < 100000) : f_X6_get t ct n M (nI r) c = some (M ct (r * cols + k)) := by
  subst hc
  have hm : r * cols + k < rows * cols := by
    have h3 : (r + 1) * cols ≤ rows * cols := Nat.mul_le_mul_right _ hr
    rw [Nat.succ_mul] at h3
    omega
  have e0 : ∀ e : Nat, e < 100000 → ¬ nI e < 0 := fun e he => nI_pos (by omega)
  unfold f_X6_get
  rw [if_neg (e0 r (by omega)), h2, if_neg (by rw [le_n (by omega) (by omega)]; omega), if_neg (e0 k (by omega)), h1, if_pos (by rw [lt_n (by omega) (by omega)]; exact hk), xl_e, pk_mul, nI_add, if_neg (e0 _ (by omega)), if_neg (by show ¬ nI n ≤ _; rw [le_n (by omega) (by omega)]; omega), xgd_t _ (xin_n (by omega) (by omega)), cl_n (by omega)]
theorem T_set {t ct n rows cols : Nat} {M : xM} (h2 : M t 2 = nI rows) (h1 : M t 1 = nI cols) {r : Nat} {c : Int32} (k : Nat) (v : Int32) (hr : r < rows) (hc : c = nI k) (hk : k < cols) (hrc : rows * cols ≤ n) (hn : n < 100000) (hrows : rows < 100000) (hcols : cols < 100000) : f_X6_set t ct n M (nI r) c v = some (xw M ct (r * cols + k) v) := by
  subst hc
  have hm : r * cols + k < rows * cols := by
    have h3 : (r + 1) * cols ≤ rows * cols := Nat.mul_le_mul_right _ hr
    rw [Nat.succ_mul] at h3
    omega
  have e0 : ∀ e : Nat, e < 100000 → ¬ nI e < 0 := fun e he => nI_pos (by omega)
  unfold f_X6_set
  rw [if_neg (e0 r (by omega)), h2, if_neg (by rw [le_n (by omega) (by omega)]; omega), if_neg (e0 k (by omega)), h1, if_pos (by rw [lt_n (by omega) (by omega)]; exact hk), xl_e, pk_mul, nI_add, if_neg (e0 _ (by omega)), if_neg (by show ¬ nI n ≤ _; rw [le_n (by omega) (by omega)]; omega), xgd_t _ (xin_n (by omega) (by omega)), cl_n (by omega), xl_e]
theorem T_has {t ct n rows : Nat} {M : xM} (h2 : M t 2 = nI rows) (hrows : rows < 100000) (a : Int32) : f_X6_has t ct n M a = some (bI (xin a rows = true)) := by
  unfold f_X6_has bI
  rw [h2]
  by_cases h : a < 0
  · have : ¬ xin a rows = true := by simp [xin, h]
    rw [if_pos h, if_neg this]
  · rw [if_neg h]
    by_cases h3 : xin a rows = true
    · obtain ⟨r, hr, rfl⟩ := xin_ex h3 (by omega)
      rw [if_pos h3, if_neg (by rw [le_n (by omega) (by omega)]; omega)]
    · rw [if_neg h3]
      have h4 : ¬ a.toNatClampNeg < rows := fun q => h3 (by simp [xin, h, q])
      obtain ⟨j, hj, rfl⟩ := nI_of h
      have hj : j < 2147483648 := by simpa using hj
      rw [cl_n hj] at h4
      rw [if_pos (by rw [le_n (by omega) hj]; omega)]

theorem v_today {V : Nat → Int32} {M : xM} (h : Vw V M) : M 1 8 = V 0 := h.2.1.1.2.2.2.2.2.2.2.2.2.2.2.1
theorem v_reason {V : Nat → Int32} {M : xM} (h : Vw V M) : M 1 9 = V 7 := h.2.1.1.2.2.2.2.2.2.2.2.2.2.2.2.1
theorem v_ok {V : Nat → Int32} {M : xM} (h : Vw V M) : Ok V := h.2.1.2.2
theorem ok_n1 {V : Nat → Int32} (h : Ok V) : V 1 = nI (nN V 1) := h.1.1
theorem ok_c1 {V : Nat → Int32} (h : Ok V) : nN V 1 ≤ 8 := h.1.2.1
theorem ok_n2 {V : Nat → Int32} (h : Ok V) : V 2 = nI (nN V 2) := h.1.2.2.1
theorem ok_c2 {V : Nat → Int32} (h : Ok V) : nN V 2 ≤ 4 := h.1.2.2.2.1
theorem ok_n3 {V : Nat → Int32} (h : Ok V) : V 3 = nI (nN V 3) := h.1.2.2.2.2.1
theorem ok_c3 {V : Nat → Int32} (h : Ok V) : nN V 3 ≤ 16 := h.1.2.2.2.2.2.1
theorem ok_n4 {V : Nat → Int32} (h : Ok V) : V 4 = nI (nN V 4) := h.1.2.2.2.2.2.2.1
theorem ok_c4 {V : Nat → Int32} (h : Ok V) : nN V 4 ≤ 24 := h.1.2.2.2.2.2.2.2.1
theorem ok_n5 {V : Nat → Int32} (h : Ok V) : V 5 = nI (nN V 5) := h.1.2.2.2.2.2.2.2.2.1
theorem ok_c5 {V : Nat → Int32} (h : Ok V) : nN V 5 ≤ 24 := h.1.2.2.2.2.2.2.2.2.2.1
theorem ok_n6 {V : Nat → Int32} (h : Ok V) : V 6 = nI (nN V 6) := h.1.2.2.2.2.2.2.2.2.2.2.1
theorem ok_c6 {V : Nat → Int32} (h : Ok V) : nN V 6 ≤ 16 := h.1.2.2.2.2.2.2.2.2.2.2.2.1
theorem v_rows_car {V : Nat → Int32} {M : xM} (h : Vw V M) : M 2 2 = nI (nN V 1) := (h.2.1.1.2.2.2.2.2.2.2.2.2.2.2.2.2.1).trans (ok_n1 (v_ok h))
theorem v_cap_car {V : Nat → Int32} {M : xM} (h : Vw V M) : nN V 1 ≤ 8 := ok_c1 (v_ok h)
theorem v_cols_car {V : Nat → Int32} {M : xM} (h : Vw V M) : M 2 1 = nI 7 := h.2.2.1.1
theorem has_car {V : Nat → Int32} {M : xM} (h : Vw V M) (a : Int32) : f_X6_has 2 3 56 M a = some (bI (xin a (nN V 1) = true)) := T_has (v_rows_car h) (by have := v_cap_car h; omega) a
theorem getk_car {V : Nat → Int32} {M : xM} (h : Vw V M) {r : Nat} {c : Int32} (k : Nat) (hr : r < (nN V 1)) (hc : c = nI k) (hk : k < 7) : f_X6_get 2 3 56 M (nI r) c = some (M 3 (r * 7 + k)) := T_get (v_rows_car h) (v_cols_car h) k hr hc hk (by have := v_cap_car h; omega) (by decide) (by have := v_cap_car h; omega) (by decide)
theorem g_car_0 {V : Nat → Int32} {M : xM} (h : Vw V M) {r : Nat} (hr : r < (nN V 1)) : f_X6_get 2 3 56 M (nI r) 0 = some (V (24 + 5 * r)) := by have := v_cap_car h; exact (getk_car (c := 0) h 0 hr rfl (by decide)).trans (congrArg some (h.2.1.1.1 r 0 (by omega) (by omega)))
theorem g_car_1 {V : Nat → Int32} {M : xM} (h : Vw V M) {r : Nat} (hr : r < (nN V 1)) : f_X6_get 2 3 56 M (nI r) 1 = some (V (24 + 5 * r + 1)) := by have := v_cap_car h; exact (getk_car (c := 1) h 1 hr rfl (by decide)).trans (congrArg some (h.2.1.1.1 r 1 (by omega) (by omega)))
theorem g_car_2 {V : Nat → Int32} {M : xM} (h : Vw V M) {r : Nat} (hr : r < (nN V 1)) : f_X6_get 2 3 56 M (nI r) 2 = some (V (24 + 5 * r + 2)) := by have := v_cap_car h; exact (getk_car (c := 2) h 2 hr rfl (by decide)).trans (congrArg some (h.2.1.1.1 r 2 (by omega) (by omega)))
theorem g_car_3 {V : Nat → Int32} {M : xM} (h : Vw V M) {r : Nat} (hr : r < (nN V 1)) : f_X6_get 2 3 56 M (nI r) 3 = some (V (24 + 5 * r + 3)) := by have := v_cap_car h; exact (getk_car (c := 3) h 3 hr rfl (by decide)).trans (congrArg some (h.2.1.1.1 r 3 (by omega) (by omega)))
theorem g_car_4 {V : Nat → Int32} {M : xM} (h : Vw V M) {r : Nat} (hr : r < (nN V 1)) : f_X6_get 2 3 56 M (nI r) 4 = some (V (24 + 5 * r + 4)) := by have := v_cap_car h; exact (getk_car (c := 4) h 4 hr rfl (by decide)).trans (congrArg some (h.2.1.1.1 r 4 (by omega) (by omega)))
theorem v_rows_mac {V : Nat → Int32} {M : xM} (h : Vw V M) : M 4 2 = nI (nN V 2) := (h.2.1.1.2.2.2.2.2.2.2.2.2.2.2.2.2.2.1).trans (ok_n2 (v_ok h))
theorem v_cap_mac {V : Nat → Int32} {M : xM} (h : Vw V M) : nN V 2 ≤ 4 := ok_c2 (v_ok h)
theorem v_cols_mac {V : Nat → Int32} {M : xM} (h : Vw V M) : M 4 1 = nI 6 := h.2.2.1.2.1
theorem has_mac {V : Nat → Int32} {M : xM} (h : Vw V M) (a : Int32) : f_X6_has 4 5 24 M a = some (bI (xin a (nN V 2) = true)) := T_has (v_rows_mac h) (by have := v_cap_mac h; omega) a
theorem getk_mac {V : Nat → Int32} {M : xM} (h : Vw V M) {r : Nat} {c : Int32} (k : Nat) (hr : r < (nN V 2)) (hc : c = nI k) (hk : k < 6) : f_X6_get 4 5 24 M (nI r) c = some (M 5 (r * 6 + k)) := T_get (v_rows_mac h) (v_cols_mac h) k hr hc hk (by have := v_cap_mac h; omega) (by decide) (by have := v_cap_mac h; omega) (by decide)
theorem g_mac_0 {V : Nat → Int32} {M : xM} (h : Vw V M) {r : Nat} (hr : r < (nN V 2)) : f_X6_get 4 5 24 M (nI r) 0 = some (V (64 + 5 * r)) := by have := v_cap_mac h; exact (getk_mac (c := 0) h 0 hr rfl (by decide)).trans (congrArg some (h.2.1.1.2.1 r 0 (by omega) (by omega)))
theorem g_mac_1 {V : Nat → Int32} {M : xM} (h : Vw V M) {r : Nat} (hr : r < (nN V 2)) : f_X6_get 4 5 24 M (nI r) 1 = some (V (64 + 5 * r + 1)) := by have := v_cap_mac h; exact (getk_mac (c := 1) h 1 hr rfl (by decide)).trans (congrArg some (h.2.1.1.2.1 r 1 (by omega) (by omega)))
theorem g_mac_2 {V : Nat → Int32} {M : xM} (h : Vw V M) {r : Nat} (hr : r < (nN V 2)) : f_X6_get 4 5 24 M (nI r) 2 = some (V (64 + 5 * r + 2)) := by have := v_cap_mac h; exact (getk_mac (c := 2) h 2 hr rfl (by decide)).trans (congrArg some (h.2.1.1.2.1 r 2 (by omega) (by omega)))
theorem g_mac_3 {V : Nat → Int32} {M : xM} (h : Vw V M) {r : Nat} (hr : r < (nN V 2)) : f_X6_get 4 5 24 M (nI r) 3 = some (V (64 + 5 * r + 3)) := by have := v_cap_mac h; exact (getk_mac (c := 3) h 3 hr rfl (by decide)).trans (congrArg some (h.2.1.1.2.1 r 3 (by omega) (by omega)))
theorem g_mac_4 {V : Nat → Int32} {M : xM} (h : Vw V M) {r : Nat} (hr : r < (nN V 2)) : f_X6_get 4 5 24 M (nI r) 4 = some (V (64 + 5 * r + 4)) := by have := v_cap_mac h; exact (getk_mac (c := 4) h 4 hr rfl (by decide)).trans (congrArg some (h.2.1.1.2.1 r 4 (by omega) (by omega)))
theorem v_rows_rec {V : Nat → Int32} {M : xM} (h : Vw V M) : M 6 2 = nI (nN V 3) := (h.2.1.1.2.2.2.2.2.2.2.2.2.2.2.2.2.2.2.1).trans (ok_n3 (v_ok h))
theorem v_cap_rec {V : Nat → Int32} {M : xM} (h : Vw V M) : nN V 3 ≤ 16 := ok_c3 (v_ok h)
theorem v_cols_rec {V : Nat → Int32} {M : xM} (h : Vw V M) : M 6 1 = nI 6 := h.2.2.1.2.2.1
theorem has_rec {V : Nat → Int32} {M : xM} (h : Vw V M) (a : Int32) : f_X6_has 6 7 96 M a = some (bI (xin a (nN V 3) = true)) := T_has (v_rows_rec h) (by have := v_cap_rec h; omega) a
theorem getk_rec {V : Nat → Int32} {M : xM} (h : Vw V M) {r : Nat} {c : Int32} (k : Nat) (hr : r < (nN V 3)) (hc : c = nI k) (hk : k < 6) : f_X6_get 6 7 96 M (nI r) c = some (M 7 (r * 6 + k)) := T_get (v_rows_rec h) (v_cols_rec h) k hr hc hk (by have := v_cap_rec h; omega) (by decide) (by have := v_cap_rec h; omega) (by decide)
theorem g_rec_0 {V : Nat → Int32} {M : xM} (h : Vw V M) {r : Nat} (hr : r < (nN V 3)) : f_X6_get 6 7 96 M (nI r) 0 = some (V (84 + 5 * r)) := by have := v_cap_rec h; exact (getk_rec (c := 0) h 0 hr rfl (by decide)).trans (congrArg some (h.2.1.1.2.2.1 r 0 (by omega) (by omega)))
theorem g_rec_1 {V : Nat → Int32} {M : xM} (h : Vw V M) {r : Nat} (hr : r < (nN V 3)) : f_X6_get 6 7 96 M (nI r) 1 = some (V (84 + 5 * r + 1)) := by have := v_cap_rec h; exact (getk_rec (c := 1) h 1 hr rfl (by decide)).trans (congrArg some (h.2.1.1.2.2.1 r 1 (by omega) (by omega)))
theorem g_rec_2 {V : Nat → Int32} {M : xM} (h : Vw V M) {r : Nat} (hr : r < (nN V 3)) : f_X6_get 6 7 96 M (nI r) 2 = some (V (84 + 5 * r + 2)) := by have := v_cap_rec h; exact (getk_rec (c := 2) h 2 hr rfl (by decide)).trans (congrArg some (h.2.1.1.2.2.1 r 2 (by omega) (by omega)))
theorem g_rec_3 {V : Nat → Int32} {M : xM} (h : Vw V M) {r : Nat} (hr : r < (nN V 3)) : f_X6_get 6 7 96 M (nI r) 3 = some (V (84 + 5 * r + 3)) := by have := v_cap_rec h; exact (getk_rec (c := 3) h 3 hr rfl (by decide)).trans (congrArg some (h.2.1.1.2.2.1 r 3 (by omega) (by omega)))
theorem g_rec_5 {V : Nat → Int32} {M : xM} (h : Vw V M) {r : Nat} (hr : r < (nN V 3)) : f_X6_get 6 7 96 M (nI r) 5 = some (V (84 + 5 * r + 4)) := by have := v_cap_rec h; exact (getk_rec (c := 5) h 5 hr rfl (by decide)).trans (congrArg some (h.2.1.1.2.2.2.1 r (by omega)))
theorem v_rows_prt {V : Nat → Int32} {M : xM} (h : Vw V M) : M 8 2 = nI 64 := h.2.2.1.2.2.2.2.2.2.2.2.1
theorem v_cap_prt {V : Nat → Int32} {M : xM} (_ : Vw V M) : 64 ≤ 64 := Nat.le_refl _
theorem v_cols_prt {V : Nat → Int32} {M : xM} (h : Vw V M) : M 8 1 = nI 4 := h.2.2.1.2.2.2.1
theorem getk_prt {V : Nat → Int32} {M : xM} (h : Vw V M) {r : Nat} {c : Int32} (k : Nat) (hr : r < 64) (hc : c = nI k) (hk : k < 4) : f_X6_get 8 9 256 M (nI r) c = some (M 9 (r * 4 + k)) := T_get (v_rows_prt h) (v_cols_prt h) k hr hc hk (by have := v_cap_prt h; omega) (by decide) (by have := v_cap_prt h; omega) (by decide)
theorem g_prt_0 {V : Nat → Int32} {M : xM} (h : Vw V M) {r : Nat} (hr : r < 64) : f_X6_get 8 9 256 M (nI r) 0 = some (V (164 + 4 * r)) := by have := v_cap_prt h; exact (getk_prt (c := 0) h 0 hr rfl (by decide)).trans (congrArg some (h.2.1.1.2.2.2.2.1 r 0 (by omega) (by omega)))
theorem g_prt_1 {V : Nat → Int32} {M : xM} (h : Vw V M) {r : Nat} (hr : r < 64) : f_X6_get 8 9 256 M (nI r) 1 = some (V (164 + 4 * r + 1)) := by have := v_cap_prt h; exact (getk_prt (c := 1) h 1 hr rfl (by decide)).trans (congrArg some (h.2.1.1.2.2.2.2.1 r 1 (by omega) (by omega)))
theorem g_prt_2 {V : Nat → Int32} {M : xM} (h : Vw V M) {r : Nat} (hr : r < 64) : f_X6_get 8 9 256 M (nI r) 2 = some (V (164 + 4 * r + 2)) := by have := v_cap_prt h; exact (getk_prt (c := 2) h 2 hr rfl (by decide)).trans (congrArg some (h.2.1.1.2.2.2.2.1 r 2 (by omega) (by omega)))
theorem g_prt_3 {V : Nat → Int32} {M : xM} (h : Vw V M) {r : Nat} (hr : r < 64) : f_X6_get 8 9 256 M (nI r) 3 = some (V (164 + 4 * r + 3)) := by have := v_cap_prt h; exact (getk_prt (c := 3) h 3 hr rfl (by decide)).trans (congrArg some (h.2.1.1.2.2.2.2.1 r 3 (by omega) (by omega)))
theorem v_rows_pas {V : Nat → Int32} {M : xM} (h : Vw V M) : M 10 2 = nI (nN V 4) := (h.2.1.1.2.2.2.2.2.2.2.2.2.2.2.2.2.2.2.2.1).trans (ok_n4 (v_ok h))
theorem v_cap_pas {V : Nat → Int32} {M : xM} (h : Vw V M) : nN V 4 ≤ 24 := ok_c4 (v_ok h)
theorem v_cols_pas {V : Nat → Int32} {M : xM} (h : Vw V M) : M 10 1 = nI 11 := h.2.2.1.2.2.2.2.1
theorem has_pas {V : Nat → Int32} {M : xM} (h : Vw V M) (a : Int32) : f_X6_has 10 11 264 M a = some (bI (xin a (nN V 4) = true)) := T_has (v_rows_pas h) (by have := v_cap_pas h; omega) a
theorem getk_pas {V : Nat → Int32} {M : xM} (h : Vw V M) {r : Nat} {c : Int32} (k : Nat) (hr : r < (nN V 4)) (hc : c = nI k) (hk : k < 11) : f_X6_get 10 11 264 M (nI r) c = some (M 11 (r * 11 + k)) := T_get (v_rows_pas h) (v_cols_pas h) k hr hc hk (by have := v_cap_pas h; omega) (by decide) (by have := v_cap_pas h; omega) (by decide)
theorem g_pas_0 {V : Nat → Int32} {M : xM} (h : Vw V M) {r : Nat} (hr : r < (nN V 4)) : f_X6_get 10 11 264 M (nI r) 0 = some (V (420 + 9 * r)) := by have := v_cap_pas h; exact (getk_pas (c := 0) h 0 hr rfl (by decide)).trans (congrArg some (h.2.1.1.2.2.2.2.2.1 r 0 (by omega) (by omega)))
theorem g_pas_1 {V : Nat → Int32} {M : xM} (h : Vw V M) {r : Nat} (hr : r < (nN V 4)) : f_X6_get 10 11 264 M (nI r) 1 = some (V (420 + 9 * r + 1)) := by have := v_cap_pas h; exact (getk_pas (c := 1) h 1 hr rfl (by decide)).trans (congrArg some (h.2.1.1.2.2.2.2.2.1 r 1 (by omega) (by omega)))
theorem g_pas_2 {V : Nat → Int32} {M : xM} (h : Vw V M) {r : Nat} (hr : r < (nN V 4)) : f_X6_get 10 11 264 M (nI r) 2 = some (V (420 + 9 * r + 2)) := by have := v_cap_pas h; exact (getk_pas (c := 2) h 2 hr rfl (by decide)).trans (congrArg some (h.2.1.1.2.2.2.2.2.1 r 2 (by omega) (by omega)))
theorem g_pas_3 {V : Nat → Int32} {M : xM} (h : Vw V M) {r : Nat} (hr : r < (nN V 4)) : f_X6_get 10 11 264 M (nI r) 3 = some (V (420 + 9 * r + 3)) := by have := v_cap_pas h; exact (getk_pas (c := 3) h 3 hr rfl (by decide)).trans (congrArg some (h.2.1.1.2.2.2.2.2.1 r 3 (by omega) (by omega)))
theorem g_pas_4 {V : Nat → Int32} {M : xM} (h : Vw V M) {r : Nat} (hr : r < (nN V 4)) : f_X6_get 10 11 264 M (nI r) 4 = some (V (420 + 9 * r + 4)) := by have := v_cap_pas h; exact (getk_pas (c := 4) h 4 hr rfl (by decide)).trans (congrArg some (h.2.1.1.2.2.2.2.2.1 r 4 (by omega) (by omega)))
theorem g_pas_7 {V : Nat → Int32} {M : xM} (h : Vw V M) {r : Nat} (hr : r < (nN V 4)) : f_X6_get 10 11 264 M (nI r) 7 = some (V (420 + 9 * r + 5)) := by have := v_cap_pas h; exact (getk_pas (c := 7) h 7 hr rfl (by decide)).trans (congrArg some (h.2.1.1.2.2.2.2.2.2.1 r 0 (by omega) (by omega)))
theorem g_pas_8 {V : Nat → Int32} {M : xM} (h : Vw V M) {r : Nat} (hr : r < (nN V 4)) : f_X6_get 10 11 264 M (nI r) 8 = some (V (420 + 9 * r + 5 + 1)) := by have := v_cap_pas h; exact (getk_pas (c := 8) h 8 hr rfl (by decide)).trans (congrArg some (h.2.1.1.2.2.2.2.2.2.1 r 1 (by omega) (by omega)))
theorem g_pas_9 {V : Nat → Int32} {M : xM} (h : Vw V M) {r : Nat} (hr : r < (nN V 4)) : f_X6_get 10 11 264 M (nI r) 9 = some (V (420 + 9 * r + 5 + 2)) := by have := v_cap_pas h; exact (getk_pas (c := 9) h 9 hr rfl (by decide)).trans (congrArg some (h.2.1.1.2.2.2.2.2.2.1 r 2 (by omega) (by omega)))
theorem g_pas_10 {V : Nat → Int32} {M : xM} (h : Vw V M) {r : Nat} (hr : r < (nN V 4)) : f_X6_get 10 11 264 M (nI r) 10 = some (V (420 + 9 * r + 5 + 3)) := by have := v_cap_pas h; exact (getk_pas (c := 10) h 10 hr rfl (by decide)).trans (congrArg some (h.2.1.1.2.2.2.2.2.2.1 r 3 (by omega) (by omega)))
theorem v_rows_per {V : Nat → Int32} {M : xM} (h : Vw V M) : M 12 2 = nI (nN V 5) := (h.2.1.1.2.2.2.2.2.2.2.2.2.2.2.2.2.2.2.2.2.1).trans (ok_n5 (v_ok h))
theorem v_cap_per {V : Nat → Int32} {M : xM} (h : Vw V M) : nN V 5 ≤ 24 := ok_c5 (v_ok h)
theorem v_cols_per {V : Nat → Int32} {M : xM} (h : Vw V M) : M 12 1 = nI 5 := h.2.2.1.2.2.2.2.2.1
theorem has_per {V : Nat → Int32} {M : xM} (h : Vw V M) (a : Int32) : f_X6_has 12 13 120 M a = some (bI (xin a (nN V 5) = true)) := T_has (v_rows_per h) (by have := v_cap_per h; omega) a
theorem getk_per {V : Nat → Int32} {M : xM} (h : Vw V M) {r : Nat} {c : Int32} (k : Nat) (hr : r < (nN V 5)) (hc : c = nI k) (hk : k < 5) : f_X6_get 12 13 120 M (nI r) c = some (M 13 (r * 5 + k)) := T_get (v_rows_per h) (v_cols_per h) k hr hc hk (by have := v_cap_per h; omega) (by decide) (by have := v_cap_per h; omega) (by decide)
theorem g_per_0 {V : Nat → Int32} {M : xM} (h : Vw V M) {r : Nat} (hr : r < (nN V 5)) : f_X6_get 12 13 120 M (nI r) 0 = some (V (636 + 5 * r)) := by have := v_cap_per h; exact (getk_per (c := 0) h 0 hr rfl (by decide)).trans (congrArg some (h.2.1.1.2.2.2.2.2.2.2.1 r 0 (by omega) (by omega)))
theorem g_per_1 {V : Nat → Int32} {M : xM} (h : Vw V M) {r : Nat} (hr : r < (nN V 5)) : f_X6_get 12 13 120 M (nI r) 1 = some (V (636 + 5 * r + 1)) := by have := v_cap_per h; exact (getk_per (c := 1) h 1 hr rfl (by decide)).trans (congrArg some (h.2.1.1.2.2.2.2.2.2.2.1 r 1 (by omega) (by omega)))
theorem g_per_2 {V : Nat → Int32} {M : xM} (h : Vw V M) {r : Nat} (hr : r < (nN V 5)) : f_X6_get 12 13 120 M (nI r) 2 = some (V (636 + 5 * r + 2)) := by have := v_cap_per h; exact (getk_per (c := 2) h 2 hr rfl (by decide)).trans (congrArg some (h.2.1.1.2.2.2.2.2.2.2.1 r 2 (by omega) (by omega)))
theorem g_per_3 {V : Nat → Int32} {M : xM} (h : Vw V M) {r : Nat} (hr : r < (nN V 5)) : f_X6_get 12 13 120 M (nI r) 3 = some (V (636 + 5 * r + 3)) := by have := v_cap_per h; exact (getk_per (c := 3) h 3 hr rfl (by decide)).trans (congrArg some (h.2.1.1.2.2.2.2.2.2.2.1 r 3 (by omega) (by omega)))
theorem g_per_4 {V : Nat → Int32} {M : xM} (h : Vw V M) {r : Nat} (hr : r < (nN V 5)) : f_X6_get 12 13 120 M (nI r) 4 = some (V (636 + 5 * r + 4)) := by have := v_cap_per h; exact (getk_per (c := 4) h 4 hr rfl (by decide)).trans (congrArg some (h.2.1.1.2.2.2.2.2.2.2.1 r 4 (by omega) (by omega)))
theorem v_rows_req {V : Nat → Int32} {M : xM} (h : Vw V M) : M 14 2 = nI (nN V 6) := (h.2.1.1.2.2.2.2.2.2.2.2.2.2.2.2.2.2.2.2.2.2).trans (ok_n6 (v_ok h))
theorem v_cap_req {V : Nat → Int32} {M : xM} (h : Vw V M) : nN V 6 ≤ 16 := ok_c6 (v_ok h)
theorem v_cols_req {V : Nat → Int32} {M : xM} (h : Vw V M) : M 14 1 = nI 10 := h.2.2.1.2.2.2.2.2.2.1
theorem has_req {V : Nat → Int32} {M : xM} (h : Vw V M) (a : Int32) : f_X6_has 14 15 160 M a = some (bI (xin a (nN V 6) = true)) := T_has (v_rows_req h) (by have := v_cap_req h; omega) a
theorem getk_req {V : Nat → Int32} {M : xM} (h : Vw V M) {r : Nat} {c : Int32} (k : Nat) (hr : r < (nN V 6)) (hc : c = nI k) (hk : k < 10) : f_X6_get 14 15 160 M (nI r) c = some (M 15 (r * 10 + k)) := T_get (v_rows_req h) (v_cols_req h) k hr hc hk (by have := v_cap_req h; omega) (by decide) (by have := v_cap_req h; omega) (by decide)
theorem g_req_0 {V : Nat → Int32} {M : xM} (h : Vw V M) {r : Nat} (hr : r < (nN V 6)) : f_X6_get 14 15 160 M (nI r) 0 = some (V (756 + 10 * r)) := by have := v_cap_req h; exact (getk_req (c := 0) h 0 hr rfl (by decide)).trans (congrArg some (h.2.1.1.2.2.2.2.2.2.2.2.1 r 0 (by omega) (by omega)))
theorem g_req_1 {V : Nat → Int32} {M : xM} (h : Vw V M) {r : Nat} (hr : r < (nN V 6)) : f_X6_get 14 15 160 M (nI r) 1 = some (V (756 + 10 * r + 1)) := by have := v_cap_req h; exact (getk_req (c := 1) h 1 hr rfl (by decide)).trans (congrArg some (h.2.1.1.2.2.2.2.2.2.2.2.1 r 1 (by omega) (by omega)))
theorem g_req_2 {V : Nat → Int32} {M : xM} (h : Vw V M) {r : Nat} (hr : r < (nN V 6)) : f_X6_get 14 15 160 M (nI r) 2 = some (V (756 + 10 * r + 2)) := by have := v_cap_req h; exact (getk_req (c := 2) h 2 hr rfl (by decide)).trans (congrArg some (h.2.1.1.2.2.2.2.2.2.2.2.1 r 2 (by omega) (by omega)))
theorem g_req_3 {V : Nat → Int32} {M : xM} (h : Vw V M) {r : Nat} (hr : r < (nN V 6)) : f_X6_get 14 15 160 M (nI r) 3 = some (V (756 + 10 * r + 3)) := by have := v_cap_req h; exact (getk_req (c := 3) h 3 hr rfl (by decide)).trans (congrArg some (h.2.1.1.2.2.2.2.2.2.2.2.1 r 3 (by omega) (by omega)))
theorem g_req_4 {V : Nat → Int32} {M : xM} (h : Vw V M) {r : Nat} (hr : r < (nN V 6)) : f_X6_get 14 15 160 M (nI r) 4 = some (V (756 + 10 * r + 4)) := by have := v_cap_req h; exact (getk_req (c := 4) h 4 hr rfl (by decide)).trans (congrArg some (h.2.1.1.2.2.2.2.2.2.2.2.1 r 4 (by omega) (by omega)))
theorem g_req_5 {V : Nat → Int32} {M : xM} (h : Vw V M) {r : Nat} (hr : r < (nN V 6)) : f_X6_get 14 15 160 M (nI r) 5 = some (V (756 + 10 * r + 5)) := by have := v_cap_req h; exact (getk_req (c := 5) h 5 hr rfl (by decide)).trans (congrArg some (h.2.1.1.2.2.2.2.2.2.2.2.1 r 5 (by omega) (by omega)))
theorem g_req_6 {V : Nat → Int32} {M : xM} (h : Vw V M) {r : Nat} (hr : r < (nN V 6)) : f_X6_get 14 15 160 M (nI r) 6 = some (V (756 + 10 * r + 6)) := by have := v_cap_req h; exact (getk_req (c := 6) h 6 hr rfl (by decide)).trans (congrArg some (h.2.1.1.2.2.2.2.2.2.2.2.1 r 6 (by omega) (by omega)))
theorem g_req_7 {V : Nat → Int32} {M : xM} (h : Vw V M) {r : Nat} (hr : r < (nN V 6)) : f_X6_get 14 15 160 M (nI r) 7 = some (V (756 + 10 * r + 7)) := by have := v_cap_req h; exact (getk_req (c := 7) h 7 hr rfl (by decide)).trans (congrArg some (h.2.1.1.2.2.2.2.2.2.2.2.1 r 7 (by omega) (by omega)))
theorem g_req_8 {V : Nat → Int32} {M : xM} (h : Vw V M) {r : Nat} (hr : r < (nN V 6)) : f_X6_get 14 15 160 M (nI r) 8 = some (V (756 + 10 * r + 8)) := by have := v_cap_req h; exact (getk_req (c := 8) h 8 hr rfl (by decide)).trans (congrArg some (h.2.1.1.2.2.2.2.2.2.2.2.1 r 8 (by omega) (by omega)))
theorem g_req_9 {V : Nat → Int32} {M : xM} (h : Vw V M) {r : Nat} (hr : r < (nN V 6)) : f_X6_get 14 15 160 M (nI r) 9 = some (V (756 + 10 * r + 9)) := by have := v_cap_req h; exact (getk_req (c := 9) h 9 hr rfl (by decide)).trans (congrArg some (h.2.1.1.2.2.2.2.2.2.2.2.1 r 9 (by omega) (by omega)))
theorem v_rows_prs {V : Nat → Int32} {M : xM} (h : Vw V M) : M 16 2 = nI 8 := h.2.2.1.2.2.2.2.2.2.2.2.2
theorem v_cap_prs {V : Nat → Int32} {M : xM} (_ : Vw V M) : 8 ≤ 8 := Nat.le_refl _
theorem v_cols_prs {V : Nat → Int32} {M : xM} (h : Vw V M) : M 16 1 = nI 2 := h.2.2.1.2.2.2.2.2.2.2.1
theorem getk_prs {V : Nat → Int32} {M : xM} (h : Vw V M) {r : Nat} {c : Int32} (k : Nat) (hr : r < 8) (hc : c = nI k) (hk : k < 2) : f_X6_get 16 17 16 M (nI r) c = some (M 17 (r * 2 + k)) := T_get (v_rows_prs h) (v_cols_prs h) k hr hc hk (by have := v_cap_prs h; omega) (by decide) (by have := v_cap_prs h; omega) (by decide)
theorem g_prs_0 {V : Nat → Int32} {M : xM} (h : Vw V M) {r : Nat} (hr : r < 8) : f_X6_get 16 17 16 M (nI r) 0 = some (V (8 + r)) := by have := v_cap_prs h; exact (getk_prs (c := 0) h 0 hr rfl (by decide)).trans (congrArg some (h.2.1.1.2.2.2.2.2.2.2.2.2.1 r (by omega)))
theorem g_prs_1 {V : Nat → Int32} {M : xM} (h : Vw V M) {r : Nat} (hr : r < 8) : f_X6_get 16 17 16 M (nI r) 1 = some (V (16 + r)) := by have := v_cap_prs h; exact (getk_prs (c := 1) h 1 hr rfl (by decide)).trans (congrArg some (h.2.1.1.2.2.2.2.2.2.2.2.2.2.1 r (by omega)))
theorem g_car_5 {V : Nat → Int32} {M : xM} (h : Vw V M) {r : Nat} (hr : r < nN V 1) : f_X6_get 2 3 56 M (nI r) 5 = some (nI (psO V r)) := by have := v_cap_car h; exact (getk_car (c := 5) h 5 hr rfl (by decide)).trans (congrArg some (h.2.1.2.1.1 r (by omega)))
theorem g_car_6 {V : Nat → Int32} {M : xM} (h : Vw V M) {r : Nat} (hr : r < nN V 1) : f_X6_get 2 3 56 M (nI r) 6 = some (nI (rcO V r)) := by have := v_cap_car h; exact (getk_car (c := 6) h 6 hr rfl (by decide)).trans (congrArg some (h.2.1.2.1.2.1 r (by omega)))
theorem g_mac_5 {V : Nat → Int32} {M : xM} (h : Vw V M) {r : Nat} (hr : r < nN V 2) : f_X6_get 4 5 24 M (nI r) 5 = some (nI (pmO V r)) := by have := v_cap_mac h; exact (getk_mac (c := 5) h 5 hr rfl (by decide)).trans (congrArg some (h.2.1.2.1.2.2.1 r (by omega)))
theorem g_pas_5 {V : Nat → Int32} {M : xM} (h : Vw V M) {r : Nat} (hr : r < nN V 4) : f_X6_get 10 11 264 M (nI r) 5 = some (tkO V r) := by have := v_cap_pas h; exact (getk_pas (c := 5) h 5 hr rfl (by decide)).trans (congrArg some (h.2.1.2.1.2.2.2.2.1 r hr))
theorem g_pas_6 {V : Nat → Int32} {M : xM} (h : Vw V M) {r : Nat} (hr : r < nN V 4) : f_X6_get 10 11 264 M (nI r) 6 = some (bkO V r) := by have := v_cap_pas h; exact (getk_pas (c := 6) h 6 hr rfl (by decide)).trans (congrArg some (h.2.1.2.1.2.2.2.2.2 r hr))
theorem g_rec_4 {V : Nat → Int32} {M : xM} (h : Vw V M) {r : Nat} (hr : r < nN V 3) : f_X6_get 6 7 96 M (nI r) 4 = f_X9_sideOfAll (lyR V r) (V (84 + 5 * r + 1)) := by have := v_cap_rec h; exact (getk_rec (c := 4) h 4 hr rfl (by decide)).trans (h.2.1.2.1.2.2.2.1 r hr).1.symm
