theorem Ok_cm {V V2 : Nat → Int32} (h : Ok V) (e : ∀ j, (j = 0 ∨ (3 ≤ j ∧ j < 7) ∨ 84 ≤ j) → V2 j = V j) (n1 : V2 1 = nI (nN V2 1)) (c1 : nN V2 1 ≤ 8) (m1 : nN V 1 ≤ nN V2 1) (n2 : V2 2 = nI (nN V2 2)) (c2 : nN V2 2 ≤ 4) (m2 : nN V 2 ≤ nN V2 2) (hC : ∀ r, r < nN V2 1 → OkC V2 r) (hM : ∀ r, r < nN V2 2 → OkM V2 r) : Ok V2 := by
  obtain ⟨⟨a1, a2, a3, a4, a5, a6, a7, a8, a9, a10, a11, a12, a13⟩, b1, b2, b3, b4, b5, b6, b7, b8, b9, b10⟩ := h
  have x3 : nN V2 3 = nN V 3 := by unfold nN; rw [e 3 (by omega)]
  have x4 : nN V2 4 = nN V 4 := by unfold nN; rw [e 4 (by omega)]
  have x5 : nN V2 5 = nN V 5 := by unfold nN; rw [e 5 (by omega)]
  have x6 : nN V2 6 = nN V 6 := by unfold nN; rw [e 6 (by omega)]
  refine ⟨⟨n1, c1, n2, c2, by rw [x3, e 3 (by omega)]; exact a5, by omega, by rw [x4, e 4 (by omega)]; exact a7, by omega, by rw [x5, e 5 (by omega)]; exact a9, by omega, by rw [x6, e 6 (by omega)]; exact a11, by omega, by rw [e 0 (by omega)]; exact a13⟩, hC, hM, fun r hr => OkR_c (b3 r (by omega)) m1 (fun c hc => e _ (by omega)), fun r h1 h2 => by rw [e _ (by omega)]; exact b4 r (by omega) h2, fun r k hr hk => ?_, fun p hp => OkP_c (b6 p (by omega)) m1 m2 (fun c hc => e _ (by omega)), fun r hr => by rw [e _ (by omega)]; exact b7 r (by omega), fun r h1 h2 => by rw [e _ (by omega)]; exact b8 r (by omega) h2, fun r hr => OkQ_c (b9 r (by omega)) (by omega) (fun c hc => e _ (by omega)), fun r h1 h2 => by rw [e _ (by omega)]; exact b10 r (by omega) h2⟩
  have x9 : nN V2 (84 + 5 * r + 4) = nN V (84 + 5 * r + 4) := by unfold nN; rw [e _ (by omega)]
  exact OkT_c (b5 r k (by omega) (by omega)) (fun c hc => e _ (by omega))
theorem sp_rg : ∀ i : Fin 9, 0 < xSpI i.val → 1 ≤ (xSpI i.val).toInt ∧ (xSpI i.val).toInt ≤ 380 := by decide +kernel
theorem plc_rg {k : Nat} (hk : k < 3) {s : Int32} (h : ¬ plc k s < 0) : rg s 1 380 := by
  unfold plc at h
  by_cases q1 : 0 < s ∧ xSpI (3 * k) = s
  · have := sp_rg ⟨3 * k, by omega⟩ (by rw [q1.2]; exact q1.1)
    rw [← q1.2]; exact this
  · rw [if_neg q1] at h
    by_cases q2 : 0 < s ∧ xSpI (3 * k + 1) = s
    · have := sp_rg ⟨3 * k + 1, by omega⟩ (by rw [q2.2]; exact q2.1)
      rw [← q2.2]; exact this
    · rw [if_neg q2] at h
      by_cases q3 : 0 < s ∧ xSpI (3 * k + 2) = s
      · have := sp_rg ⟨3 * k + 2, by omega⟩ (by rw [q3.2]; exact q3.1)
        rw [← q3.2]; exact this
      · rw [if_neg q3] at h
        exact absurd (by decide) h
theorem hl_yes {k : Nat} (hk : k < 3) {l : Int32} {P : Prop} (h : ∃ v, f_X2_hasLayout (nI k) l = some v ∧ ¬ v = 0) : 0 ≤ l ∧ l ≤ 3 := by
  obtain ⟨v, h1, h2⟩ := h
  by_cases q : 0 ≤ l ∧ l ≤ 3
  · exact q
  · rw [hl_outl _ _ q] at h1
    exact absurd (Option.some.inj h1).symm h2
theorem hl_some {k : Nat} (hk : k < 3) (l : Int32) : ∃ v, f_X2_hasLayout (nI k) l = some v := by
  by_cases q : 0 ≤ l ∧ l ≤ 3
  · obtain ⟨m, hm, rfl⟩ := nI_ex (n := 3) (by decide) q
    exact ⟨_, hl_fin ⟨k, hk⟩ ⟨m, by omega⟩⟩
  · exact ⟨0, hl_outl _ _ q⟩
