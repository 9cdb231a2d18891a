/-! THE REFERENCE'S ONE: a name, a number, a sign before, brackets -/
theorem lN_i32 {n : Nat} (h : n < 10000) : Int64.toInt32 (lN n) = nI n := by
  rw [← nI_l (by omega : n < 2147483648)]
  simp
section RO
variable {bs : Nat → Nat} {sz off : Nat} {tk pl st : Nat → Nat} {tc : Nat} {nm : Nat → Int32}
/-- a name's value, or no name here -/
theorem ro_name {op a : Nat} {I : rk_I} {J : rk_J} (h : rS bs sz off tk pl st tc nm a op I J) : (tk a < 6 ∧ f_X10_name I J = some (nm (tk a), I)) ∨ (6 ≤ tk a ∧ ∃ I', f_X10_name I J = some (0, I') ∧ rF pl a I' ∧ rR I I') := by
  have w0 := mn_word h.2.2.1 h.2.2.2.1 (w := 0) (x := 223456) (by omega) (by decide)
  have w1 := mn_word h.2.2.1 h.2.2.2.1 (w := 1) (x := 168984) (by omega) (by decide)
  have w2 := mn_word h.2.2.1 h.2.2.2.1 (w := 2) (x := 8863997) (by omega) (by decide)
  have w3 := mn_word h.2.2.1 h.2.2.2.1 (w := 3) (x := 21568592) (by omega) (by decide)
  have w4 := mn_word h.2.2.1 h.2.2.2.1 (w := 4) (x := 315904) (by omega) (by decide)
  have w5 := mn_word h.2.2.1 h.2.2.2.1 (w := 5) (x := 3488) (by omega) (by decide)
  obtain ⟨k, n1, n2, n3, n4, n5, n6, n7, n8⟩ := h.2.2.2.2.2
  unfold f_X10_name
  rw [w0, pr_sb]
  by_cases e0 : tk a = 0
  · rw [if_pos e0, if_neg (by decide), n2, pr_rd (by omega) (by omega), e0, n3]
    exact Or.inl ⟨by omega, rfl⟩
  · rw [if_neg e0, if_pos rfl, w1, pr_sb]
    by_cases e1 : tk a = 1
    · rw [if_pos e1, if_neg (by decide), e1, n4]
      exact Or.inl ⟨by omega, rfl⟩
    · rw [if_neg e1, if_pos rfl, w2, pr_sb]
      by_cases e2 : tk a = 2
      · rw [if_pos e2, if_neg (by decide), n2, pr_rd (by omega) (by omega), e2, n5]
        exact Or.inl ⟨by omega, rfl⟩
      · rw [if_neg e2, if_pos rfl, w3, pr_sb]
        by_cases e3 : tk a = 3
        · rw [if_pos e3, if_neg (by decide), n2, pr_rd (by omega) (by omega), e3, n6]
          exact Or.inl ⟨by omega, rfl⟩
        · rw [if_neg e3, if_pos rfl, w4, pr_sb]
          by_cases e4 : tk a = 4
          · rw [if_pos e4, if_neg (by decide), n2, pr_rd (by omega) (by omega), e4, n7]
            exact Or.inl ⟨by omega, rfl⟩
          · rw [if_neg e4, if_pos rfl, w5, pr_sb]
            by_cases e5 : tk a = 5
            · rw [if_pos e5, if_neg (by decide), n2]
              unfold f_X10_dueOf
              rw [pr_rd (by omega) (by omega), pr_sb, pr_rd (by omega) (by omega), pr_sb, e5, n8]
              exact Or.inl ⟨by omega, rfl⟩
            · rw [if_neg e5, if_pos rfl]
              obtain ⟨I', g1, g2, g3⟩ := rs_fail h
              rw [g1]
              exact Or.inr ⟨by omega, I', rfl, g2, g3⟩
theorem rc_one {op k a : Nat} {rec : Nat → rk_I → rk_J → Option (Int32 × rk_I × rk_J)} {I : rk_I} {J : rk_J} (hT : tz_T bs sz tk pl st tc) (hop : op ≤ 5) (H5 : op < 5 → ∀ a I J, rS bs sz off tk pl st tc nm a (op + 1) I J → rQ bs sz off tk pl st tc nm a (op + 1) I J (gp tk k 5 (op + 1) a) (rec 5 I J)) (H0 : op < 5 → ∀ a I J, rS bs sz off tk pl st tc nm a (op + 1) I J → rQ bs sz off tk pl st tc nm a (op + 1) I J (gp tk k 0 (op + 1) a) (rec 0 I J)) (h : rS bs sz off tk pl st tc nm a op I J) : rQ bs sz off tk pl st tc nm a op I J (gp tk (k + 1) 5 op a) (f_X10_one rec I J) := by
  have eg : gp tk (k + 1) 5 op a = if tk a < 6 ∨ 100 ≤ tk a then .inr (a + 1, [tk a]) else if tk a = 45 then (if op < 5 then gp_b (gp tk k 5 (op + 1) (a + 1)) (fun a' c' => .inr (a', c' ++ [22])) else .inl a) else if tk a = 40 then (if op < 5 then gp_b (gp tk k 0 (op + 1) (a + 1)) (fun a' c' => if tk a' = 41 then .inr (a' + 1, c') else .inl a') else .inl a) else .inl a := by
    show (if 5 = 2 then _ else if 5 = 5 then _ else _) = _
    rw [if_neg (by decide), if_pos rfl]
  have hK := h.2.2.1.2.2
  have h30 := h.2.2.2.1
  rw [eg]
  unfold f_X10_one
  rw [mn_sign h.2.2.1 h30 (s := 45) (by unfold tz_si; omega) (by decide), pr_sb]
  by_cases h45 : tk a = 45
  · rw [if_neg (show ¬ (tk a < 6 ∨ 100 ≤ tk a) by omega), if_pos h45, if_pos h45, if_neg (show ¬ (1 : Int32) = 0 by decide)]
    rcases rs_opens hT h (by omega) (by omega) hop with ⟨ho, I1, J1, e, g1, g2, g3⟩ | ⟨ho, I1, e, g1, g2⟩
    · rw [if_pos ho, e, cq_b3, if_neg (by decide)]
      refine rq_b (H5 ho (a + 1) I1 J1 g1) g2 g3 (by omega) (fun x u I' J' hx => ?_) (fun q2 c2 u I' J' hq hu hl => ?_)
      · exact ⟨_, _, J', rfl, rf_29 hx, rR_u (by omega), mJ_r _⟩
      · exact ⟨_, _, J', rfl, rs_close hq ho, rR_u (by omega), mJ_r _, eV_u hu (fun s => rfl), Nat.le_refl _⟩
    · rw [if_neg ho, e, cq_b3, if_pos rfl]
      exact ⟨_, I1, J, rfl, g1, g2, mJ_r _⟩
  · rw [if_neg h45, if_neg h45, if_pos rfl, mn_sign h.2.2.1 h30 (s := 40) (by unfold tz_si; omega) (by decide), pr_sb]
    by_cases h40 : tk a = 40
    · rw [if_neg (show ¬ (tk a < 6 ∨ 100 ≤ tk a) by omega), if_pos h40, if_pos h40, if_neg (show ¬ (1 : Int32) = 0 by decide)]
      rcases rs_opens hT h (by omega) (by omega) hop with ⟨ho, I1, J1, e, g1, g2, g3⟩ | ⟨ho, I1, e, g1, g2⟩
      · rw [if_pos ho, e, cq_b3, if_neg (by decide)]
        have j71F : ∀ (x : Nat) (u : Int32) (I' : rk_I) (J' : rk_J), rF pl x I' → ∃ v' I'' J'', f_X10_one_j71 rec I' J' u = some (v', I'', J'') ∧ rF pl x I'' ∧ rR I' I'' ∧ mJ J' J'' := fun x u I' J' hx => by
          refine ⟨u, rk_ui I' 31 29 (I' 31 29 - 1), J', ?_, rf_29 hx, rR_u (by omega), mJ_r _⟩
          unfold f_X10_one_j71
          rw [pr_sb, ui_n (by omega), hx.1, if_neg (by decide)]
        refine rq_b (H0 ho (a + 1) I1 J1 g1) g2 g3 (by omega) (fun x u I' J' hx => ?_) (fun q2 c2 u I' J' hq hu hl => ?_)
        · rw [mn_signF hx.1, pr_sb, if_pos rfl, mn_failF hx.1, pr_sb]
          exact j71F x u I' J' hx
        · rw [mn_sign hq.2.2.1 hq.2.2.2.1 (s := 41) (by unfold tz_si; omega) (by decide), pr_sb]
          by_cases h41 : tk q2 = 41
          · rw [if_pos h41, if_pos h41, if_neg (by decide)]
            have hcl := rs_close hq ho
            obtain ⟨I2, J2, e2, k1, k2, k3⟩ := rs_next hT hcl (by omega) (by omega)
            refine ⟨u, I2, J2, ?_, k1, rR_t (rR_u (by omega)) k2, k3, hu, Nat.le_succ _⟩
            unfold f_X10_one_j71
            rw [pr_sb, if_pos hcl.2.2.2.1, e2]
            rfl
          · rw [if_neg h41, if_neg h41, if_pos rfl]
            obtain ⟨I2, e2, k1, k2⟩ := rs_fail hq
            rw [e2, pr_sb]
            obtain ⟨v', I'', J'', k3, k4, k5, k6⟩ := j71F q2 u I2 J' k1
            exact ⟨v', I'', J'', k3, k4, rR_t k2 k5, k6⟩
      · rw [if_neg ho, e, cq_b3, if_pos rfl]
        exact ⟨_, I1, J, rfl, g1, g2, mJ_r _⟩
    · rw [if_neg h40, if_neg h40, if_pos rfl, if_pos h30]
      by_cases h100 : 100 ≤ tk a
      · have hk : I 31 25 = 2 ∧ J 31 27 = lN (tk a - 100) ∧ tk a < 10100 := by
          rcases hK with ⟨x, y, z⟩ | ⟨x, y⟩ | ⟨x, y⟩ | ⟨x, x2, y, z⟩ | ⟨x, y, z⟩
          · omega
          · omega
          · omega
          · exact ⟨y, z, x2⟩
          · unfold tz_si at x; omega
        rw [if_pos (Or.inr h100), if_pos hk.1, hk.2.1, lN_i32 (by omega)]
        obtain ⟨I1, J1, e, g1, g2, g3⟩ := rs_next hT h (by omega) (by omega)
        rw [e]
        refine ⟨_, I1, J1, rfl, g1, g2, g3, eV_1 (fun s => ?_), Nat.le_succ _⟩
        unfold ev_s
        rw [if_pos h100]
      · have hk : ¬ I 31 25 = 2 := by
          rcases hK with ⟨x, y, z⟩ | ⟨x, y⟩ | ⟨x, y⟩ | ⟨x, x2, y, z⟩ | ⟨x, y, z⟩
          · rw [y]; decide
          · rw [y]; decide
          · rcases y with y | ⟨y, -⟩ <;> rw [y] <;> decide
          · omega
          · rw [y]; decide
        rw [if_neg hk]
        unfold f_X10_one_j123
        rw [if_pos h30]
        by_cases h1 : I 31 25 = 1
        · rw [if_pos h1]
          rcases ro_name h with ⟨t1, e⟩ | ⟨t1, I1, e, g1, g2⟩
          · rw [if_pos (Or.inl t1), e, cq_b2, if_pos h30]
            obtain ⟨I1, J1, e2, g1, g2, g3⟩ := rs_next hT h (by omega) (by omega)
            rw [e2]
            refine ⟨_, I1, J1, rfl, g1, g2, g3, eV_1 (fun s => ?_), Nat.le_succ _⟩
            unfold ev_s
            rw [if_neg h100, if_pos t1]
          · rw [if_neg (by omega), e, cq_b2, if_neg (by rw [g1.1]; decide)]
            exact ⟨_, I1, J, rfl, g1, g2, mJ_r _⟩
        · rw [if_neg h1]
          have t1 : 6 ≤ tk a := by
            rcases hK with ⟨x, y, z⟩ | ⟨x, y⟩ | ⟨x, y⟩ | ⟨x, x2, y, z⟩ | ⟨x, y, z⟩
            · exact absurd y h1
            · omega
            · omega
            · omega
            · unfold tz_si at x; omega
          rw [if_neg (by omega)]
          obtain ⟨I1, e, g1, g2⟩ := rs_fail h
          rw [e]
          exact ⟨_, I1, J, rfl, g1, g2, mJ_r _⟩
end RO
