/-! NOT, AND THE RELATIONS -/
section RN
variable {bs : Nat → Nat} {sz off : Nat} {tk pl st : Nat → Nat} {tc : Nat} {nm : Nat → Int32}
theorem rc_rel {op q k : Nat} {rec : Nat → rk_I → rk_J → Option (Int32 × rk_I × rk_J)} {I : rk_I} {J : rk_J} {c : List Nat} {v : Int32} (hT : tz_T bs sz tk pl st tc) (H : ∀ a I J, rS bs sz off tk pl st tc nm a op I J → rQ bs sz off tk pl st tc nm a op I J (gp tk k 3 op a) (rec 3 I J)) (h : rS bs sz off tk pl st tc nm q op I J) (hv : eV nm c v) (ht : tk q = 60 ∨ tk q = 61) : rQ bs sz off tk pl st tc nm q op I J (gp_b (gp tk k 3 op (q + 1)) (fun a2 c2 => .inr (a2, c ++ c2 ++ [tk q]))) (f_X10_not_j69 rec I J v) := by
  obtain ⟨I1, J1, e, g1, g2, g3⟩ := rs_next hT h (by omega) (by omega)
  have hw := rs_worth h (by unfold tz_si; omega)
  have hc := lg_eq (J 31 27) 60
  have key : f_X10_not_j69 rec I J v = rk_b3 (rec 3 I1 J1) fun x1 I2 J2 => some (ev_j (tk q) v x1, I2, J2) := by
    unfold f_X10_not_j69 f_X10_not_j85
    rw [e, cq_b2, cq_b2]
    rcases ht with he | he
    · rw [if_pos (hc.mpr (by rw [hw, he]; rfl)), he]
      congr 1
      funext x1 I2 J2
      rw [if_neg (show ¬ (1 : Int32) = 0 by decide)]
      show _ = some ((if x1 ≤ v then (0 : Int32) else 1), I2, J2)
      by_cases hx : x1 ≤ v
      · rw [if_pos hx, if_pos hx]
      · rw [if_neg hx, if_neg hx]
    · rw [if_neg (fun z => by have := hc.mp z; rw [hw, he] at this; exact absurd this (by decide)), he]
      congr 1
      funext x1 I2 J2
      rw [if_pos (show (0 : Int32) = 0 from rfl)]
      show _ = some ((if v = x1 then (1 : Int32) else 0), I2, J2)
      by_cases hx : v = x1
      · rw [if_pos hx, if_pos hx]
      · rw [if_neg hx, if_neg hx]
  rw [key]
  refine rq_b (H (q + 1) I1 J1 g1) g2 g3 (by omega) (fun x u I' J' hx => ⟨_, I', J', rfl, hx, rR_r _, mJ_r _⟩) (fun q2 c2 u I' J' hq hu hl => ?_)
  exact ⟨_, I', J', rfl, hq, rR_r _, mJ_r _, eV_b hv hu (ev_bin (by omega) (by omega) (by omega) (by omega) v u), Nat.le_refl _⟩
theorem rc_not {op k a : Nat} {rec : Nat → rk_I → rk_J → Option (Int32 × rk_I × rk_J)} {I : rk_I} {J : rk_J} (hT : tz_T bs sz tk pl st tc) (hop : op ≤ 5) (H2 : op < 5 → ∀ a I J, rS bs sz off tk pl st tc nm a (op + 1) I J → rQ bs sz off tk pl st tc nm a (op + 1) I J (gp tk k 2 (op + 1) a) (rec 2 I J)) (H3 : ∀ a I J, rS bs sz off tk pl st tc nm a op I J → rQ bs sz off tk pl st tc nm a op I J (gp tk k 3 op a) (rec 3 I J)) (h : rS bs sz off tk pl st tc nm a op I J) : rQ bs sz off tk pl st tc nm a op I J (gp tk (k + 1) 2 op a) (f_X10_not rec I J) := by
  unfold f_X10_not
  have hw8 := mn_word h.2.2.1 h.2.2.2.1 (w := 8) (x := 10631) (by omega) (by decide)
  by_cases h8 : tk a = 8
  · rw [hw8, if_pos h8, pr_sb, if_neg (by decide)]
    have eg : gp tk (k + 1) 2 op a = if op < 5 then gp_b (gp tk k 2 (op + 1) (a + 1)) (fun a' c' => .inr (a', c' ++ [8])) else .inl a := by
      show (if 2 = 2 then (if tk a = 8 then _ else _) else _) = _
      rw [if_pos rfl, if_pos h8]
    rw [eg]
    rcases rs_opens hT h (by omega) (by omega) hop with ⟨ho, I1, J1, e, g1, g2, g3⟩ | ⟨ho, I1, e, g1, g2⟩
    · rw [if_pos ho, e, cq_b3, if_neg (by decide)]
      refine rq_b (H2 ho (a + 1) I1 J1 g1) g2 g3 (by omega) (fun x u I' J' hx => ?_) (fun q2 c2 u I' J' hq hu hl => ?_)
      · rw [pr_sb]
        by_cases hu : u = 0
        · rw [if_pos hu]
          exact ⟨_, _, J', rfl, rf_29 hx, rR_u (by omega), mJ_r _⟩
        · rw [if_neg hu]
          exact ⟨_, _, J', rfl, rf_29 hx, rR_u (by omega), mJ_r _⟩
      · rw [pr_sb]
        by_cases hz : u = 0
        · rw [if_pos hz]
          exact ⟨_, _, J', rfl, rs_close hq ho, rR_u (by omega), mJ_r _, eV_u hu (fun s => by rw [hz]; rfl), Nat.le_refl _⟩
        · rw [if_neg hz]
          exact ⟨_, _, J', rfl, rs_close hq ho, rR_u (by omega), mJ_r _, eV_u hu (fun s => by show (if u = 0 then (1 : Int32) else 0) :: s = _; rw [if_neg hz]), Nat.le_refl _⟩
    · rw [if_neg ho, e, cq_b3, if_pos rfl]
      exact ⟨_, I1, J, rfl, g1, g2, mJ_r _⟩
  · rw [hw8, if_neg h8, pr_sb, if_pos rfl]
    have eg : gp tk (k + 1) 2 op a = gp_b (gp tk k 3 op a) (fun a1 c1 => if tk a1 = 60 ∨ tk a1 = 61 then gp_b (gp tk k 3 op (a1 + 1)) (fun a2 c2 => .inr (a2, c1 ++ c2 ++ [tk a1])) else .inr (a1, c1)) := by
      show (if 2 = 2 then (if tk a = 8 then _ else _) else _) = _
      rw [if_pos rfl, if_neg h8]
    rw [eg]
    refine rq_b (H3 a I J h) (rR_r _) (mJ_r _) (Nat.le_refl _) (fun x u I' J' hx => ?_) (fun q c v I' J' hq hv hl => ?_)
    · rw [mn_signF hx.1, pr_sb, if_pos rfl, mn_signF hx.1, pr_sb, if_pos rfl]
      exact ⟨_, I', J', rfl, hx, rR_r _, mJ_r _⟩
    · rw [mn_sign hq.2.2.1 hq.2.2.2.1 (s := 60) (by unfold tz_si; omega) (by decide), pr_sb]
      by_cases h60 : tk q = 60
      · rw [if_pos (Or.inl h60), if_pos h60, if_neg (by decide)]
        exact rc_rel hT H3 hq hv (Or.inl h60)
      · rw [if_neg h60, if_pos rfl, mn_sign hq.2.2.1 hq.2.2.2.1 (s := 61) (by unfold tz_si; omega) (by decide), pr_sb]
        by_cases h61 : tk q = 61
        · rw [if_pos (Or.inr h61), if_pos h61, if_neg (by decide)]
          exact rc_rel hT H3 hq hv (Or.inr h61)
        · rw [if_neg (show ¬ (tk q = 60 ∨ tk q = 61) by omega), if_neg h61, if_pos rfl]
          exact ⟨_, I', J', rfl, hq, rR_r _, mJ_r _, hv, Nat.le_refl _⟩
end RN
