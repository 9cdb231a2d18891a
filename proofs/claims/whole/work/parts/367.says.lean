/-! THE FOUR CHAINS of the reference's reader -/
section RC
variable {bs : Nat → Nat} {sz off : Nat} {tk pl st : Nat → Nat} {tc : Nat} {nm : Nat → Int32}
theorem rs_worth {j op : Nat} {I : rk_I} {J : rk_J} (h : rS bs sz off tk pl st tc nm j op I J) (hs : tz_si (tk j)) : J 31 27 = lN (tk j) := by
  unfold tz_si at hs
  rcases h.2.2.1.2.2 with ⟨a, b, c⟩ | ⟨a, b⟩ | ⟨a, b⟩ | ⟨a, a2, b, c⟩ | ⟨a, b, c⟩
  · omega
  · omega
  · omega
  · omega
  · exact c
theorem rc_chain {lv op k a K : Nat} {L : Int32 → rk_I → rk_J → Option ((Int32 × rk_I × rk_J) ⊕ (Int32 × rk_I × rk_J))} {rec : rk_I → rk_J → Option (Int32 × rk_I × rk_J)} {I : rk_I} {J : rk_J} (hT : tz_T bs sz tk pl st tc) (htc : tc ≤ 160) (hlv : lv < 5) (hl2 : lv ≠ 2)
    (hOut : ∀ j I J s, rS bs sz off tk pl st tc nm j op I J → gp_j (tk j) lv = false → L s I J = some (.inr (s, I, J)))
    (hOutF : ∀ f I J s, rF pl f I → L s I J = some (.inr (s, I, J)))
    (hIn : ∀ j I J s, rS bs sz off tk pl st tc nm j op I J → gp_j (tk j) lv = true → ∃ I1 J1, rS bs sz off tk pl st tc nm (j + 1) op I1 J1 ∧ rR I I1 ∧ mJ J J1 ∧ ∀ v I2 J2, rec I1 J1 = some (v, I2, J2) → L s I J = some (.inl (ev_j (tk j) s v, I2, J2)))
    (H : ∀ a I J, rS bs sz off tk pl st tc nm a op I J → rQ bs sz off tk pl st tc nm a op I J (gp tk k (lv + 1) op a) (rec I J)) (h : rS bs sz off tk pl st tc nm a op I J) : rQ bs sz off tk pl st tc nm a op I J (gp tk (k + 1) lv op a) (rk_b3 (rec I J) fun x1 I1 J1 => rk_b3 (rk_while (fun a9 => L a9.1 a9.2.1 a9.2.2) (x1, I1, J1)) fun x I2 J2 => some (x, I2, J2)) := by
  have eg : gp tk (k + 1) lv op a = gp_b (gp tk k (lv + 1) op a) (fun a1 c1 => gp_l tk (gp tk k (lv + 1) op) lv 160 a1 c1) := by
    show (if lv = 2 then _ else if lv = 5 then _ else _) = _
    rw [if_neg hl2, if_neg (by omega)]
  rw [eg]
  refine rq_b (H a I J h) (rR_r I) (mJ_r J) (Nat.le_refl _) (fun x v I' J' hx => ?_) (fun q c v I' J' hq hv hl => ?_)
  · rw [rk_while_out (a := (v, I', J')) (b := (v, I', J')) (hOutF x I' J' v hx)]
    exact ⟨v, I', J', rfl, hx, rR_r _, mJ_r _⟩
  · exact rq_loop hT htc hlv hOut hOutF hIn H 160 q c v I' J' hq (by omega) hv
theorem rc_either {op k a : Nat} {rec : Nat → rk_I → rk_J → Option (Int32 × rk_I × rk_J)} {I : rk_I} {J : rk_J} (hT : tz_T bs sz tk pl st tc) (htc : tc ≤ 160) (H : ∀ a I J, rS bs sz off tk pl st tc nm a op I J → rQ bs sz off tk pl st tc nm a op I J (gp tk k 1 op a) (rec 1 I J)) (h : rS bs sz off tk pl st tc nm a op I J) : rQ bs sz off tk pl st tc nm a op I J (gp tk (k + 1) 0 op a) (f_X10_either rec I J) := by
  unfold f_X10_either
  refine rc_chain (K := 0) (L := fun s I J => f_X10_either_l5 rec I J s) (rec := rec 1) hT htc (by omega) (by omega) (fun j I J s h hj => ?_) (fun f I J s h => ?_) (fun j I J s h hj => ?_) H h
  · have hne : ¬ tk j = 6 := by simpa [gp_j] using hj
    show f_X10_either_l5 rec I J s = _
    unfold f_X10_either_l5
    rw [mn_word h.2.2.1 h.2.2.2.1 (w := 6) (by omega) (by decide), if_neg hne, pr_sb, if_pos rfl]
  · show f_X10_either_l5 rec I J s = _
    unfold f_X10_either_l5
    rw [mn_wordF h.1, pr_sb, if_pos rfl]
  · have he : tk j = 6 := by simpa [gp_j] using hj
    obtain ⟨I1, J1, e, g1, g2, g3⟩ := rs_next hT h (by omega) (by omega)
    refine ⟨I1, J1, g1, g2, g3, fun v I2 J2 hv => ?_⟩
    show f_X10_either_l5 rec I J s = _
    unfold f_X10_either_l5
    rw [mn_word h.2.2.1 h.2.2.2.1 (w := 6) (by omega) (by decide), if_pos he, pr_sb, if_neg (by decide), e, cq_b2, hv, cq_b3, he]
    unfold ev_j
    rw [if_pos rfl]
    by_cases hs : s = 0
    · rw [if_pos hs, if_pos hs]
      by_cases hw : v = 0
      · rw [if_pos hw, if_pos hw]
      · rw [if_neg hw, if_neg hw]
    · rw [if_neg hs, if_neg hs]
theorem ev_j7 (a b : Int32) : ev_j 7 a b = if a = 0 then 0 else if b = 0 then 0 else 1 := by
  unfold ev_j
  rw [if_neg (show ¬ (7 : Nat) = 6 by decide), if_pos (show (7 : Nat) = 7 from rfl)]
theorem rc_both {op k a : Nat} {rec : Nat → rk_I → rk_J → Option (Int32 × rk_I × rk_J)} {I : rk_I} {J : rk_J} (hT : tz_T bs sz tk pl st tc) (htc : tc ≤ 160) (H : ∀ a I J, rS bs sz off tk pl st tc nm a op I J → rQ bs sz off tk pl st tc nm a op I J (gp tk k 2 op a) (rec 2 I J)) (h : rS bs sz off tk pl st tc nm a op I J) : rQ bs sz off tk pl st tc nm a op I J (gp tk (k + 1) 1 op a) (f_X10_both rec I J) := by
  unfold f_X10_both
  refine rc_chain (K := 0) (L := fun s I J => f_X10_both_l5 rec I J s) (rec := rec 2) hT htc (by omega) (by omega) (fun j I J s h hj => ?_) (fun f I J s h => ?_) (fun j I J s h hj => ?_) H h
  · have hne : ¬ tk j = 7 := by simpa [gp_j] using hj
    show f_X10_both_l5 rec I J s = _
    unfold f_X10_both_l5
    rw [mn_word h.2.2.1 h.2.2.2.1 (w := 7) (by omega) (by decide), if_neg hne, pr_sb, if_pos rfl]
  · show f_X10_both_l5 rec I J s = _
    unfold f_X10_both_l5
    rw [mn_wordF h.1, pr_sb, if_pos rfl]
  · have he : tk j = 7 := by simpa [gp_j] using hj
    obtain ⟨I1, J1, e, g1, g2, g3⟩ := rs_next hT h (by omega) (by omega)
    refine ⟨I1, J1, g1, g2, g3, fun v I2 J2 hv => ?_⟩
    show f_X10_both_l5 rec I J s = _
    unfold f_X10_both_l5
    rw [mn_word h.2.2.1 h.2.2.2.1 (w := 7) (by omega) (by decide), if_pos he, pr_sb, if_neg (by decide), e, cq_b2, hv, cq_b3, he, ev_j7]
    by_cases hs : s = 0
    · rw [if_pos hs, if_pos hs]
    · rw [if_neg hs, if_neg hs]
      by_cases hw : v = 0
      · rw [if_pos hw, if_pos hw]
      · rw [if_neg hw, if_neg hw]
theorem rc_term {op k a : Nat} {rec : Nat → rk_I → rk_J → Option (Int32 × rk_I × rk_J)} {I : rk_I} {J : rk_J} (hT : tz_T bs sz tk pl st tc) (htc : tc ≤ 160) (H : ∀ a I J, rS bs sz off tk pl st tc nm a op I J → rQ bs sz off tk pl st tc nm a op I J (gp tk k 5 op a) (rec 5 I J)) (h : rS bs sz off tk pl st tc nm a op I J) : rQ bs sz off tk pl st tc nm a op I J (gp tk (k + 1) 4 op a) (f_X10_term rec I J) := by
  unfold f_X10_term
  refine rc_chain (K := 0) (L := fun s I J => f_X10_term_l5 rec I J s) (rec := rec 5) hT htc (by omega) (by omega) (fun j I J s h hj => ?_) (fun f I J s h => ?_) (fun j I J s h hj => ?_) H h
  · have hne : ¬ tk j = 42 := by simpa [gp_j] using hj
    show f_X10_term_l5 rec I J s = _
    unfold f_X10_term_l5
    rw [mn_sign h.2.2.1 h.2.2.2.1 (s := 42) (by unfold tz_si; omega) (by decide), if_neg hne, pr_sb, if_pos rfl]
  · show f_X10_term_l5 rec I J s = _
    unfold f_X10_term_l5
    rw [mn_signF h.1, pr_sb, if_pos rfl]
  · have he : tk j = 42 := by simpa [gp_j] using hj
    obtain ⟨I1, J1, e, g1, g2, g3⟩ := rs_next hT h (by omega) (by omega)
    refine ⟨I1, J1, g1, g2, g3, fun v I2 J2 hv => ?_⟩
    show f_X10_term_l5 rec I J s = _
    unfold f_X10_term_l5
    rw [mn_sign h.2.2.1 h.2.2.2.1 (s := 42) (by unfold tz_si; omega) (by decide), if_pos he, pr_sb, if_neg (by decide), e, cq_b2, hv, cq_b3, he]
    unfold ev_j
    rw [if_neg (by decide), if_neg (by decide), if_neg (by decide), if_neg (by decide), if_neg (by decide), if_neg (by decide)]
theorem rc_added {op k a : Nat} {rec : Nat → rk_I → rk_J → Option (Int32 × rk_I × rk_J)} {I : rk_I} {J : rk_J} (hT : tz_T bs sz tk pl st tc) (htc : tc ≤ 160) (H : ∀ a I J, rS bs sz off tk pl st tc nm a op I J → rQ bs sz off tk pl st tc nm a op I J (gp tk k 4 op a) (rec 4 I J)) (h : rS bs sz off tk pl st tc nm a op I J) : rQ bs sz off tk pl st tc nm a op I J (gp tk (k + 1) 3 op a) (f_X10_added rec I J) := by
  unfold f_X10_added
  refine rc_chain (K := 0) (L := fun s I J => f_X10_added_l5 rec I J s) (rec := rec 4) hT htc (by omega) (by omega) (fun j I J s h hj => ?_) (fun f I J s h => ?_) (fun j I J s h hj => ?_) H h
  · have hne : ¬ tk j = 43 ∧ ¬ tk j = 45 := by simpa [gp_j] using hj
    show f_X10_added_l5 rec I J s = _
    unfold f_X10_added_l5
    rw [mn_sign h.2.2.1 h.2.2.2.1 (s := 43) (by unfold tz_si; omega) (by decide), if_neg hne.1, pr_sb, if_pos rfl, mn_sign h.2.2.1 h.2.2.2.1 (s := 45) (by unfold tz_si; omega) (by decide), if_neg hne.2, pr_sb, if_pos rfl]
  · show f_X10_added_l5 rec I J s = _
    unfold f_X10_added_l5
    rw [mn_signF h.1, pr_sb, if_pos rfl, mn_signF h.1, pr_sb, if_pos rfl]
  · have he : tk j = 43 ∨ tk j = 45 := by simpa [gp_j] using hj
    obtain ⟨I1, J1, e, g1, g2, g3⟩ := rs_next hT h (by omega) (by omega)
    refine ⟨I1, J1, g1, g2, g3, fun v I2 J2 hv => ?_⟩
    have hw := rs_worth h (by unfold tz_si; omega)
    have hc := lg_eq (J 31 27) 43
    show f_X10_added_l5 rec I J s = _
    unfold f_X10_added_l5
    rw [mn_sign h.2.2.1 h.2.2.2.1 (s := 43) (by unfold tz_si; omega) (by decide), pr_sb]
    rcases he with he | he
    · rw [if_pos he, if_neg (by decide)]
      unfold f_X10_added_j23 f_X10_added_j39
      rw [if_pos (hc.mpr (by rw [hw, he]; rfl)), e, cq_b2, hv, cq_b3, he, if_neg (by decide)]
      rfl
    · rw [if_neg (show ¬ tk j = 43 by omega), if_pos rfl, mn_sign h.2.2.1 h.2.2.2.1 (s := 45) (by unfold tz_si; omega) (by decide), if_pos he, pr_sb, if_neg (by decide)]
      unfold f_X10_added_j23 f_X10_added_j39
      rw [if_neg (fun z => by have := hc.mp z; rw [hw, he] at this; exact absurd this (by decide)), e, cq_b2, hv, cq_b3, he, if_pos rfl]
      rfl
end RC
