/-! where it all begins -/
theorem mz {l : List (Nat × Nat × Int32)} {k j : Nat} (h : l.all (fun e => !(e.1 == k)) = true) : mOf l k j = 0 := by
  have : l.find? (fun e => e.1 == k && e.2.1 == j) = none := by
    rw [List.find?_eq_none]
    intro e he q
    have h1 := List.all_eq_true.mp h e he
    simp at h1 q
    exact h1 q.1
  unfold mOf
  rw [this]
theorem mz_cells : ∀ k : Fin 18, k.val % 2 = 1 → 3 ≤ k.val → cL_92.all (fun e => !(e.1 == k.val)) = true := by decide +kernel
theorem mz_150 : cL_92.all (fun e => !(e.1 == 150)) = true := by decide +kernel
theorem mz_153 : cL_92.all (fun e => !(e.1 == 153)) = true := by decide +kernel
def colB (b : Nat) : Bool := decide (mOf cL_92 (b + 1) 1 = nI 7) && decide (mOf cL_92 (b + 3) 1 = nI 6) && decide (mOf cL_92 (b + 5) 1 = nI 6) && decide (mOf cL_92 (b + 7) 1 = nI 4) && decide (mOf cL_92 (b + 9) 1 = nI 11) && decide (mOf cL_92 (b + 11) 1 = nI 5) && decide (mOf cL_92 (b + 13) 1 = nI 10) && decide (mOf cL_92 (b + 15) 1 = nI 2) && decide (mOf cL_92 (b + 7) 2 = nI 64) && decide (mOf cL_92 (b + 15) 2 = nI 8)
theorem col_of {b : Nat} (h : colB b = true) : EncCol (mOf cL_92) b := by
  unfold colB at h
  simp only [Bool.and_eq_true, decide_eq_true_eq] at h
  obtain ⟨⟨⟨⟨⟨⟨⟨⟨⟨a0, a1⟩, a2⟩, a3⟩, a4⟩, a5⟩, a6⟩, a7⟩, a8⟩, a9⟩ := h
  exact ⟨a0, a1, a2, a3, a4, a5, a6, a7, a8, a9⟩
theorem col_1 : colB 1 = true := by decide +kernel
theorem col_h : ∀ j : Fin 5, colB (hB j.val) = true := by decide +kernel
theorem col_s : ∀ s : Fin 2, colB (sB s.val) = true := by decide +kernel
theorem rk_0 : (∀ j : Fin 9, mOf cL_92 155 j.val = xSpI j.val) ∧ (∀ j : Fin 3, mOf cL_92 156 j.val = (([10, 7, 10] : List Int32)[j.val]?).getD 0) := by decide +kernel
theorem m_0 : mOf cL_92 1 8 = 0 ∧ mOf cL_92 1 9 = 0 ∧ mOf cL_92 2 2 = 0 ∧ mOf cL_92 4 2 = 0 ∧ mOf cL_92 6 2 = 0 ∧ mOf cL_92 10 2 = 0 ∧ mOf cL_92 12 2 = 0 ∧ mOf cL_92 14 2 = 0 := by decide +kernel
theorem m_1 : mOf cL_92 149 2 = 0 ∧ mOf cL_92 18 2 = 0 ∧ mOf cL_92 18 1 = 0 ∧ mOf cL_92 141 2 = 0 ∧ mOf cL_92 149 6 = 0 ∧ mOf cL_92 105 1 = 0 ∧ mOf cL_92 123 1 = 0 := by decide +kernel
theorem Rl_0 : Rl (mOf cL_92) := by
  have v : ∀ j, mOf cL_92 150 j = 0 := fun j => mz mz_150
  have z : ∀ k j, k < 18 → k % 2 = 1 → 3 ≤ k → mOf cL_92 k j = 0 := fun k j h1 h2 h3 => mz (mz_cells ⟨k, h1⟩ h2 h3)
  have n0 : ∀ j, nN (mOf cL_92 150) j = 0 := fun j => by unfold nN; rw [v]; rfl
  obtain ⟨a0, a1, a2, a3, a4, a5, a6, a7⟩ := m_0
  obtain ⟨b0, b1, b2, b3, b4, b5, b6⟩ := m_1
  have e : ∀ k j i, k < 18 → k % 2 = 1 → 3 ≤ k → mOf cL_92 k j = mOf cL_92 150 i := fun k j i h1 h2 h3 => by rw [z k j h1 h2 h3, v]
  refine ⟨⟨⟨fun r c _ _ => e _ _ _ (by decide) (by decide) (by decide), fun r c _ _ => e _ _ _ (by decide) (by decide) (by decide), fun r c _ _ => e _ _ _ (by decide) (by decide) (by decide), fun r _ => e _ _ _ (by decide) (by decide) (by decide), fun r c _ _ => e _ _ _ (by decide) (by decide) (by decide), fun r c _ _ => e _ _ _ (by decide) (by decide) (by decide), fun r c _ _ => e _ _ _ (by decide) (by decide) (by decide), fun r c _ _ => e _ _ _ (by decide) (by decide) (by decide), fun r c _ _ => e _ _ _ (by decide) (by decide) (by decide), fun r _ => e _ _ _ (by decide) (by decide) (by decide), fun r _ => e _ _ _ (by decide) (by decide) (by decide), by rw [v]; exact a0, by rw [v]; exact a1, by rw [v]; exact a2, by rw [v]; exact a3, by rw [v]; exact a4, by rw [v]; exact a5, by rw [v]; exact a6, by rw [v]; exact a7⟩, ⟨fun r _ => ?_, fun r _ => ?_, fun r _ => ?_, fun r hr => ?_, fun p hp => ?_, fun p hp => ?_⟩, ⟨⟨by rw [n0, v]; rfl, by rw [n0]; decide, by rw [n0, v]; rfl, by rw [n0]; decide, by rw [n0, v]; rfl, by rw [n0]; decide, by rw [n0, v]; rfl, by rw [n0]; decide, by rw [n0, v]; rfl, by rw [n0]; decide, by rw [n0, v]; rfl, by rw [n0]; decide, by rw [v]; exact ⟨by decide, by decide⟩⟩, fun r hr => ?_, fun r hr => ?_, fun r hr => ?_, fun r _ _ => v _, fun r k hr _ => ?_, fun p hp => ?_, fun r hr => ?_, fun r _ _ => v _, fun r hr => ?_, fun r _ _ => v _⟩⟩, fun k _ => v k, col_of col_1, ⟨fun j hj => rk_0.1 ⟨j, hj⟩, fun j hj => rk_0.2 ⟨j, hj⟩⟩, ⟨fun j hj => col_of (col_h ⟨j, hj⟩), 0, 0, by decide, by decide, b0, b1, b2, fun j hj => by omega⟩, ⟨fun s hs => col_of (col_s ⟨s, hs⟩), fun s hs => Or.inl ⟨mz mz_153, ?_⟩⟩, ⟨0, by decide, b3, b4, fun j hj => by omega⟩⟩
  · rw [z _ _ (by decide) (by decide) (by decide)]; unfold psO; rw [n0]; rfl
  · rw [z _ _ (by decide) (by decide) (by decide)]; unfold rcO; rw [n0]; rfl
  · rw [z _ _ (by decide) (by decide) (by decide)]; unfold pmO; rw [n0]; rfl
  · rw [n0] at hr; omega
  · rw [n0] at hp; omega
  · rw [n0] at hp; omega
  · rw [n0] at hr; omega
  · rw [n0] at hr; omega
  · rw [n0] at hr; omega
  · rw [n0] at hr; omega
  · rw [n0] at hp; omega
  · rw [n0] at hr; omega
  · rw [n0] at hr; omega
  · rcases (show s = 0 ∨ s = 1 by omega) with rfl | rfl
    · exact b5
    · exact b6
