/-! A CODE makes the stack longer by one at most -/
theorem ev_len {nm : Nat → Int32} {s : List Int32} {x : Nat} : (ev_s nm s x).length ≤ s.length + 1 := by
  unfold ev_s
  by_cases h1 : 100 ≤ x
  · rw [if_pos h1]; simp
  · rw [if_neg h1]
    by_cases h2 : x < 6
    · rw [if_pos h2]; simp
    · rw [if_neg h2]
      by_cases h3 : x = 8
      · rw [if_pos h3]; simp
      · rw [if_neg h3]
        by_cases h4 : x = 22
        · rw [if_pos h4]; simp
        · rw [if_neg h4]; simp; omega
