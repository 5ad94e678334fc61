theorem Ok_rsn {V : Nat → Int32} (h : Ok V) (v : Int32) : Ok (upd V 7 v) := by
  have c5 := ok_c5 h
  have c6 := ok_c6 h
  have n : ∀ k, k ≠ 7 → nN (upd V 7 v) k = nN V k := fun k hk => by unfold nN; rw [upd_ne hk]
  have n5 := n 5 (by decide)
  have n6 := n 6 (by decide)
  have n3 := n 3 (by decide)
  exact Ok_hi h (fun j _ _ _ g _ => upd_ne g) (by rw [n5, upd_ne (by decide)]; exact ok_n5 h) (by omega) (by rw [n6, upd_ne (by decide)]; exact ok_n6 h) (by omega) (fun q g => by rw [upd_ne (by omega)]; exact h.2.2.2.2.2.2.2.1 q (by omega)) (fun q g1 g2 => by rw [upd_ne (by omega)]; exact h.2.2.2.2.2.2.2.2.1 q (by omega) g2) (fun q g => OkQ_c (h.2.2.2.2.2.2.2.2.2.1 q (by omega)) (by omega) (fun c _ => upd_ne (by omega))) (fun q g1 g2 => by rw [upd_ne (by omega)]; exact h.2.2.2.2.2.2.2.2.2.2 q (by omega) g2)
theorem rsn8 {V : Nat → Int32} {M : xM} (hM : Vw V M) (hz : Z916 V) (v : Int32) : Vw (upd V 7 v) (xw M 1 9 v) ∧ ∀ k, 18 ≤ k → xw M 1 9 v k = M k := by
  have ev : ∀ j, j ≠ 7 → upd V 7 v j = V j := fun j hj => upd_ne hj
  have w1 := w_rsn (St_0 hM hz) v
  exact St_end w1 (St_der w1 hM (ev _ (by decide)) (ev _ (by decide)) (fun j _ _ => ev j (by omega)) (fun r _ => ⟨ev _ (by omega), ev _ (by omega)⟩) (fun r _ => ev _ (by omega))) (Ok_rsn (v_ok hM) v)
