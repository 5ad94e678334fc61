theorem act_pass {V : Nat → Int32} (ho : Ok V) (hz : Z916 V) (a1 a2 a3 a4 : Int32) : Act (fun m => f_X8_tryPass m a1 a2 a3 a4 0) (fun m => f_X9_plays m a1 a2 a3 a4 0) V := by
  have c1 := ok_c1 ho
  have c2 := ok_c2 ho
  unfold f_X8_tryPass
  by_cases hx : xin a1 (nN V 1) = true
  case neg => exact ⟨V, -1, Core_same hz (fun M hM => by simp only [has_car hM, xb_n, ifb0, if_neg hx]) (fun M _ => plays_no wV_150 ho (fun z => hx z.1) a3 a4 0)⟩
  by_cases hy : xin a2 (nN V 2) = true
  case neg => exact ⟨V, -1, Core_same hz (fun M hM => by simp only [has_car hM, has_mac hM, xb_n, ifb0, if_pos hx, if_neg hy]) (fun M _ => plays_no wV_150 ho (fun z => hy z.2) a3 a4 0)⟩
  obtain ⟨c, hc, rfl⟩ := xin_ex hx (by omega)
  obtain ⟨m, hm, rfl⟩ := xin_ex hy (by omega)
  obtain ⟨b, b8, b9, br⟩ := cpl_e ho hm a3
  by_cases qb : b = true
  case neg => exact ⟨V, -2, Core_same hz (fun M hM => by simp only [has_car hM, has_mac hM, xb_n, ifb0, if_pos hx, if_pos hy, b8 M hM, if_neg qb]) (fun M hK => (plays_e wV_150 ho hc hm (b9 _ wV_150 hK) a4 0).trans (by rw [if_neg (fun z => qb z.1)]))⟩
  by_cases qs : 0 ≤ a4 ∧ a4 ≤ 1
  case neg => exact ⟨V, -2, Core_same hz (fun M hM => by simp only [has_car hM, has_mac hM, xb_n, ifb0, if_pos hx, if_pos hy, b8 M hM, if_pos qb, sid_e, if_neg qs]) (fun M hK => (plays_e wV_150 ho hc hm (b9 _ wV_150 hK) a4 0).trans (by rw [if_neg (fun z => qs z.2)]))⟩
  obtain ⟨s, hs, rfl⟩ := nI_ex (n := 1) (by decide) qs
  have hs2 : s < 2 := by omega
  obtain ⟨l, hl, el⟩ := lyc ho hc
  obtain ⟨h, hh, eh⟩ := rg_ex (n := 3) (ho.2.2.1 m hm).2.2.1 (by decide)
  have rs := br qb
  obtain ⟨v, v1, v2, v3, v4⟩ := rp_e ho hz hc hm el eh rs hl hh hs2
  have back : ∀ (M M1 : xM) (U : Nat → Int32), (∀ k, k ≠ 157 → M1 k = wV M V k) → ∃ M2, wV M1 U = wV M2 U ∧ ∀ k, k ≠ 157 → M2 k = M k := fun M M1 U hk => ⟨wV M1 (M 150), by
    funext k
    by_cases q : k = 150
    · subst q; rw [wV_150, wV_150]
    · rw [wV_ne q, wV_ne q, wV_ne q], fun k h157 => by
    by_cases q : k = 150
    · subst q; exact wV_150
    · rw [wV_ne q, hk k h157, wV_ne q]⟩
  rcases v1 with z | z
  · subst z
    have core := core_pass ho hz hc hm rfl (v4 rfl) el eh rs hl hh hs2 0 0 0
    refine ⟨_, nI (nN V 4), fun M hM => ?_, fun M hK _ => ?_, core.2.2⟩
    · obtain ⟨M1, k1, k2, k3⟩ := core.1 M hM
      have k1' : f_X8_makePass M (nI c) (nI m) a3 (nI s) = some (nI (nN V 4), M1) := k1
      exact ⟨M1, by simp only [has_car hM, has_mac hM, xb_n, xl_n, ifb0, if_pos hx, if_pos hy, b8 M hM, if_pos qb, sid_e, if_pos qs, v2 M hM, if_true, f_X8_tryPass_94, k1', xb2_n], k2, k3⟩
    · obtain ⟨M1, p1, p2, p3⟩ := v3 (wV M V) wV_150
      have e1 : M1 150 = V := (p2 150 (by decide)).trans wV_150
      have hK1 : RefK M1 := RefK_fr hK ((p2 155 (by decide)).trans (wV_ne (by decide))) ((p2 156 (by decide)).trans (wV_ne (by decide)))
      obtain ⟨M3, r1, r2⟩ := core.2.1 M1 hK1 (p3 rfl)
      rw [← e1, ← wV_id, e1] at r1
      have r1' : f_X9_plays_56 M1 (nI c) (nI m) a3 (nI s) 0 0 0 = _ := r1
      obtain ⟨M4, g1, g2⟩ := back M M3 (passV V (nN V 4) c m a3 s (cpF V c m l h a3 s)) (fun k hk => (r2 k hk).trans (p2 k hk))
      refine ⟨M4, ?_, g2⟩
      refine (plays_e wV_150 ho hc hm (b9 _ wV_150 hK) (nI s) 0).trans ?_
      rw [if_pos ⟨qb, qs⟩, p1, xb2_n, if_pos (by decide), if_pos rfl, r1', g1]
  · have zn : ¬ v = 0 := fun w => by rw [w] at z; exact absurd z (by decide)
    have zl : ¬ v ≤ 0 := Int32.not_le.mpr z
    refine ⟨upd V 7 v, -5, fun M hM => ?_, fun M hK _ => ?_, z_upd hz (by decide)⟩
    · obtain ⟨s1, s2⟩ := rsn8 hM hz v
      exact ⟨xw M 1 9 v, by simp only [has_car hM, has_mac hM, xb_n, xl_n, ifb0, if_pos hx, if_pos hy, b8 M hM, if_pos qb, sid_e, if_pos qs, v2 M hM, if_neg zn], s1, s2⟩
    · obtain ⟨M1, p1, p2, p3⟩ := v3 (wV M V) wV_150
      have e1 : M1 150 = V := (p2 150 (by decide)).trans wV_150
      have hw : xw M1 150 7 v = wV M1 (upd V 7 v) := by
        have : M1 = wV M1 V := by rw [← e1]; exact wV_id
        exact (congrArg (fun z => xw z 150 7 v) this).trans xw_wV
      obtain ⟨M4, g1, g2⟩ := back M M1 (upd V 7 v) p2
      refine ⟨M4, ?_, g2⟩
      refine (plays_e wV_150 ho hc hm (b9 _ wV_150 hK) (nI s) 0).trans ?_
      rw [if_pos ⟨qb, qs⟩, p1, xb2_n, if_neg zl, hw, g1]
