/-! ONE PART read by the reference -/
section RP
variable {bs : Nat → Nat} {sz off : Nat} {tk pl st : Nat → Nat} {tc : Nat} {nm : Nat → Int32}
theorem rp_38F {f : Nat} {I : rk_I} {J : rk_J} {u : Int32} (h : rF pl f I) : f_X10_part_j38 I J u = some (u, I, J) := by
  unfold f_X10_part_j38
  rw [mn_signF h.1, pr_sb, if_pos rfl, mn_failF h.1, pr_sb, if_neg (by rw [h.1]; decide)]
theorem rp_part (hT : tz_T bs sz tk pl st tc) (htc : tc ≤ 160) {j a : Nat} (hj : j < 3) {x : Int64} (hx : x = lN (wv (9 + j))) {I : rk_I} {J : rk_J} (h : rS bs sz off tk pl st tc nm a 0 I J) : rQ bs sz off tk pl st tc nm a 0 I J (gp_p tk j a) (f_X10_part I J x) := by
  unfold f_X10_part gp_p
  rw [mn_word h.2.2.1 h.2.2.2.1 (w := 9 + j) (by omega) hx, pr_sb]
  by_cases ht : tk a = 9 + j
  · rw [if_pos ht, if_pos ht, if_neg (show ¬ (1 : Int32) = 0 by decide)]
    obtain ⟨I1, J1, e, g1, g2, g3⟩ := rs_next hT h (by omega) (by omega)
    unfold f_X10_part_j12
    rw [if_pos h.2.2.2.1, e, cq_b2]
    unfold f_X10_part_j23
    rw [if_pos g1.2.2.2.1]
    refine rq_b (rq_main hT htc 36 0 0 (a + 1) 60 I1 J1 (by omega) (by omega) (by omega) (by omega) g1) g2 g3 (by omega) (fun x u I' J' hx => ?_) (fun q c u I' J' hq hu hl => ?_)
    · rw [rp_38F hx]
      exact ⟨_, I', J', rfl, hx, rR_r _, mJ_r _⟩
    · unfold f_X10_part_j38
      rw [mn_sign hq.2.2.1 hq.2.2.2.1 (s := 59) (by unfold tz_si; omega) (by decide), pr_sb]
      by_cases h59 : tk q = 59
      · rw [if_pos h59, if_pos h59, if_neg (show ¬ (1 : Int32) = 0 by decide), if_pos hq.2.2.2.1]
        obtain ⟨I2, J2, e2, k1, k2, k3⟩ := rs_next hT hq (by omega) (by omega)
        rw [e2]
        exact ⟨u, I2, J2, rfl, k1, k2, k3, hu, Nat.le_succ _⟩
      · rw [if_neg h59, if_neg h59, if_pos rfl]
        obtain ⟨I2, e2, k1, k2⟩ := rs_fail hq
        rw [e2, pr_sb, if_neg (by rw [k1.1]; decide)]
        exact ⟨u, I2, J', rfl, k1, k2, mJ_r _⟩
  · rw [if_neg ht, if_neg ht, if_pos rfl]
    obtain ⟨I1, e, g1, g2⟩ := rs_fail h
    rw [e, pr_sb]
    unfold f_X10_part_j12 f_X10_part_j23
    rw [if_neg (by rw [g1.1]; decide), if_neg (by rw [g1.1]; decide), rp_38F g1]
    exact ⟨0, I1, J, rfl, g1, g2, mJ_r _⟩
end RP
