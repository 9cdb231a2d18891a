/-! ONE CODE, ALL SORTS -/
theorem sk_step {I : rk_I} {s : List Int32} {nm : Nat → Int32} {o x : Nat} {h : Int32} (hn : ∀ I', sK I I' → ∀ y, y < 6 → f_X3_named I' (nI y) o h = some (nm y)) (hs : sk I s) (hl : s.length < 160) (hx : x < 20000) (hc : 100 ≤ x ∨ x < 6 ∨ x = 8 ∨ x = 22 ∨ cO x) : ∃ I', f_X3_step I (nI x) o h = some I' ∧ sk I' (ev_s nm s x) ∧ sK I I' := by
  have htl : s.tail.length ≤ s.length := by simp
  have htl2 : s.tail.tail.length ≤ s.length := by simp; omega
  unfold f_X3_step ev_s
  by_cases h100 : 100 ≤ x
  · rw [if_neg (show ¬ nI x < 100 from nI_nlt (b := 100) h100 (by omega)), if_pos h100, show (100 : Int32) = nI 100 from rfl, pk_sub h100]
    obtain ⟨I1, e1, g1, r1⟩ := sk_push hs hl (nI (x - 100))
    rw [e1, pr_sb]
    exact ⟨I1, rfl, g1, r1⟩
  · rw [if_pos (show nI x < 100 from nI_lt (b := 100) (by omega) (by omega)), if_neg h100]
    by_cases h6 : x < 6
    · rw [if_neg (show ¬ (6 : Int32) ≤ nI x from nI_ge (b := 6) h6 (by omega)), if_pos h6, hn I (fun _ _ _ _ => rfl) x h6, pr_sb]
      obtain ⟨I1, e1, g1, r1⟩ := sk_push hs hl (nm x)
      rw [e1, pr_sb]
      exact ⟨I1, rfl, g1, r1⟩
    · rw [if_pos (show (6 : Int32) ≤ nI x from nI_le (a := 6) (by omega) (by omega)), if_neg h6]
      obtain ⟨I1, e1, g1, r1⟩ := sk_pop hs
      by_cases h8 : x = 8
      · rw [if_pos (show nI x = 8 by rw [h8]; rfl), if_pos h8, e1, cq_b2]
        by_cases hv : ev_p s = 0
        · obtain ⟨I2, e2, g2, r2⟩ := sk_push g1 (by omega) 1
          rw [if_pos hv, if_pos hv, sj_1, pr_sb, e2, pr_sb]
          exact ⟨I2, rfl, g2, sK_t r1 r2⟩
        · obtain ⟨I2, e2, g2, r2⟩ := sk_push g1 (by omega) 0
          rw [if_neg hv, if_neg hv, sj_0, pr_sb, e2, pr_sb]
          exact ⟨I2, rfl, g2, sK_t r1 r2⟩
      · rw [if_neg (show ¬ nI x = 8 from fun z => h8 ((nI_eq (b := 8) (by omega) (by omega)).mp z)), if_neg h8]
        by_cases h22 : x = 22
        · rw [if_pos (show nI x = 22 by rw [h22]; rfl), if_pos h22, e1, cq_b2]
          obtain ⟨I2, e2, g2, r2⟩ := sk_push g1 (by omega) (- ev_p s)
          rw [e2, pr_sb]
          exact ⟨I2, rfl, g2, sK_t r1 r2⟩
        · rw [if_neg (show ¬ nI x = 22 from fun z => h22 ((nI_eq (b := 22) (by omega) (by omega)).mp z)), if_neg h22, e1, cq_b2]
          have hO : cO x := by
            rcases hc with g | g | g | g | g
            · exact absurd g h100
            · exact absurd g h6
            · exact absurd g h8
            · exact absurd g h22
            · exact g
          obtain ⟨I2, e2, g2, r2⟩ := sk_pop g1
          rw [e2, cq_b2, sj_joined hO, pr_sb]
          obtain ⟨I3, e3, g3, r3⟩ := sk_push g2 (by omega) (ev_j x (ev_p s.tail) (ev_p s))
          rw [e3, pr_sb]
          exact ⟨I3, rfl, g3, sK_t r1 (sK_t r2 r3)⟩
