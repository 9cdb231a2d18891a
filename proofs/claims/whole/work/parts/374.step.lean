/-! ONE CODE on the class's stack -/
def cO (x : Nat) : Prop := x = 6 ∨ x = 7 ∨ x = 43 ∨ x = 45 ∨ x = 42 ∨ x = 60 ∨ x = 61
theorem sj_0 : f_X3_truth 0 = some 0 := rfl
theorem sj_1 : f_X3_truth 1 = some 1 := by decide
theorem sj_joined {x : Nat} (hx : cO x) (a b : Int32) : f_X3_joined (nI x) a b = some (ev_j x a b) := by
  unfold f_X3_joined
  rcases hx with rfl | rfl | rfl | rfl | rfl | rfl | rfl
  · rw [if_pos (show nI 6 = 6 from rfl)]
    show _ = some (if a = 0 then (if b = 0 then 0 else 1) else 1)
    by_cases h : a = 0
    · rw [if_pos h, if_pos h]
      by_cases h2 : b = 0
      · rw [if_pos h2, if_pos h2, sj_0]; rfl
      · rw [if_neg h2, if_neg h2, sj_1]; rfl
    · rw [if_neg h, if_neg h, sj_1]; rfl
  · rw [if_neg (show ¬ nI 7 = 6 by decide), if_pos (show nI 7 = 7 from rfl), ev_j7]
    by_cases h : a = 0
    · rw [if_pos h, if_pos h, sj_0]; rfl
    · rw [if_neg h, if_neg h]
      by_cases h2 : b = 0
      · rw [if_pos h2, if_pos h2, sj_0]; rfl
      · rw [if_neg h2, if_neg h2, sj_1]; rfl
  · rw [if_neg (show ¬ nI 43 = 6 by decide), if_neg (show ¬ nI 43 = 7 by decide), if_pos (show nI 43 = 43 from rfl)]
    rfl
  · rw [if_neg (show ¬ nI 45 = 6 by decide), if_neg (show ¬ nI 45 = 7 by decide), if_neg (show ¬ nI 45 = 43 by decide), if_pos (show nI 45 = 45 from rfl)]
    rfl
  · rw [if_neg (show ¬ nI 42 = 6 by decide), if_neg (show ¬ nI 42 = 7 by decide), if_neg (show ¬ nI 42 = 43 by decide), if_neg (show ¬ nI 42 = 45 by decide), if_neg (show ¬ nI 42 = 60 by decide), if_neg (show ¬ nI 42 = 61 by decide)]
    rfl
  · rw [if_neg (show ¬ nI 60 = 6 by decide), if_neg (show ¬ nI 60 = 7 by decide), if_neg (show ¬ nI 60 = 43 by decide), if_neg (show ¬ nI 60 = 45 by decide), if_pos (show nI 60 = 60 from rfl)]
    show _ = some (if b ≤ a then 0 else 1)
    by_cases h : b ≤ a
    · rw [if_pos h, if_pos h, sj_0]; rfl
    · rw [if_neg h, if_neg h, sj_1]; rfl
  · rw [if_neg (show ¬ nI 61 = 6 by decide), if_neg (show ¬ nI 61 = 7 by decide), if_neg (show ¬ nI 61 = 43 by decide), if_neg (show ¬ nI 61 = 45 by decide), if_neg (show ¬ nI 61 = 60 by decide), if_pos (show nI 61 = 61 from rfl)]
    show _ = some (if a = b then 1 else 0)
    by_cases h : a = b
    · rw [if_pos h, if_pos h, sj_1]; rfl
    · rw [if_neg h, if_neg h, sj_0]; rfl
