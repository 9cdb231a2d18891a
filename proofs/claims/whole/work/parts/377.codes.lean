/-! EVERY CODE OF gp is of the machine's sorts -/
theorem ca_main {tk : Nat → Nat} : ∀ (k lv op a : Nat) (q : Nat × List Nat), lv ≤ 5 → gp tk k lv op a = .inr q → ∀ x, x ∈ q.2 → cA x := by
  intro k
  induction k with
  | zero =>
    intro lv op a q hl h
    cases h
  | succ k ih =>
    intro lv op a q hl h
    by_cases h2 : lv = 2
    · subst h2
      replace h : (if tk a = 8 then (if op < 5 then gp_b (gp tk k 2 (op + 1) (a + 1)) (fun a' c' => .inr (a', c' ++ [8])) else .inl a) else gp_b (gp tk k 3 op a) (fun a1 c1 => if tk a1 = 60 ∨ tk a1 = 61 then gp_b (gp tk k 3 op (a1 + 1)) (fun a2 c2 => .inr (a2, c1 ++ c2 ++ [tk a1])) else .inr (a1, c1))) = (.inr q : gp_R) := h
      by_cases h8 : tk a = 8
      · rw [if_pos h8] at h
        by_cases ho : op < 5
        · rw [if_pos ho] at h
          obtain ⟨q0, e, g⟩ := gb_inr h
          cases g
          exact ca_app (ih 2 _ _ q0 (by omega) e) (ca_one (by unfold cA; omega))
        · rw [if_neg ho] at h
          cases h
      · rw [if_neg h8] at h
        obtain ⟨q0, e, g⟩ := gb_inr h
        have i0 := ih 3 _ _ q0 (by omega) e
        by_cases hr : tk q0.1 = 60 ∨ tk q0.1 = 61
        · rw [if_pos hr] at g
          obtain ⟨q1, e1, g1⟩ := gb_inr g
          cases g1
          exact ca_app (ca_app i0 (ih 3 _ _ q1 (by omega) e1)) (ca_one (by unfold cA cO; omega))
        · rw [if_neg hr] at g
          cases g
          exact i0
    · by_cases h5 : lv = 5
      · subst h5
        replace h : (if tk a < 6 ∨ 100 ≤ tk a then .inr (a + 1, [tk a]) else if tk a = 45 then (if op < 5 then gp_b (gp tk k 5 (op + 1) (a + 1)) (fun a' c' => .inr (a', c' ++ [22])) else .inl a) else if tk a = 40 then (if op < 5 then gp_b (gp tk k 0 (op + 1) (a + 1)) (fun a' c' => if tk a' = 41 then .inr (a' + 1, c') else .inl a') else .inl a) else .inl a) = (.inr q : gp_R) := h
        by_cases hx : tk a < 6 ∨ 100 ≤ tk a
        · rw [if_pos hx] at h
          cases h
          exact ca_one (by unfold cA; omega)
        · rw [if_neg hx] at h
          by_cases h45 : tk a = 45
          · rw [if_pos h45] at h
            by_cases ho : op < 5
            · rw [if_pos ho] at h
              obtain ⟨q0, e, g⟩ := gb_inr h
              cases g
              exact ca_app (ih 5 _ _ q0 (by omega) e) (ca_one (by unfold cA; omega))
            · rw [if_neg ho] at h
              cases h
          · rw [if_neg h45] at h
            by_cases h40 : tk a = 40
            · rw [if_pos h40] at h
              by_cases ho : op < 5
              · rw [if_pos ho] at h
                obtain ⟨q0, e, g⟩ := gb_inr h
                by_cases h41 : tk q0.1 = 41
                · rw [if_pos h41] at g
                  cases g
                  exact ih 0 _ _ q0 (by omega) e
                · rw [if_neg h41] at g
                  cases g
              · rw [if_neg ho] at h
                cases h
            · rw [if_neg h40] at h
              cases h
      · replace h : (if lv = 2 then _ else if lv = 5 then _ else gp_b (gp tk k (lv + 1) op a) (fun a1 c1 => gp_l tk (gp tk k (lv + 1) op) lv 160 a1 c1)) = (.inr q : gp_R) := h
        rw [if_neg h2, if_neg h5] at h
        obtain ⟨q0, e, g⟩ := gb_inr h
        exact ca_loop (by omega) (fun a q hq => ih (lv + 1) op a q (by omega) hq) 160 q0.1 q0.2 q (ih (lv + 1) op a q0 (by omega) e) g
