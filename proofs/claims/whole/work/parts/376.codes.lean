/-! THE SORTS OF A TEXT'S CODES -/
def cA (x : Nat) : Prop := 100 ≤ x ∨ x < 6 ∨ x = 8 ∨ x = 22 ∨ cO x
theorem gb_inr {r : gp_R} {f : Nat → List Nat → gp_R} {q : Nat × List Nat} (h : gp_b r f = .inr q) : ∃ q0, r = .inr q0 ∧ f q0.1 q0.2 = .inr q := by
  cases r with
  | inl x => cases h
  | inr q0 => exact ⟨q0, rfl, h⟩
theorem ca_app {c d : List Nat} (h : ∀ x, x ∈ c → cA x) (h2 : ∀ x, x ∈ d → cA x) : ∀ x, x ∈ c ++ d → cA x := fun x hx => by
  rcases List.mem_append.mp hx with g | g
  · exact h x g
  · exact h2 x g
theorem ca_one {y : Nat} (h : cA y) : ∀ x, x ∈ [y] → cA x := fun x hx => by
  rw [List.mem_singleton.mp hx]
  exact h
theorem ca_j {t lv : Nat} (hlv : lv < 5) (h : gp_j t lv = true) : cA t := by
  unfold cA cO
  rcases (by omega : lv = 0 ∨ lv = 1 ∨ lv = 2 ∨ lv = 3 ∨ lv = 4) with rfl | rfl | rfl | rfl | rfl <;> simp [gp_j] at h <;> omega
theorem ca_loop {tk : Nat → Nat} {g : Nat → gp_R} {lv : Nat} (hlv : lv < 5) (hg : ∀ a q, g a = .inr q → ∀ x, x ∈ q.2 → cA x) : ∀ (m a : Nat) (c : List Nat) (q : Nat × List Nat), (∀ x, x ∈ c → cA x) → gp_l tk g lv m a c = .inr q → ∀ x, x ∈ q.2 → cA x
  | 0, a, c, q, hc, h => by
    cases h
    exact hc
  | m + 1, a, c, q, hc, h => by
    cases hj : gp_j (tk a) lv with
    | false =>
      unfold gp_l at h
      rw [hj] at h
      cases h
      exact hc
    | true =>
      unfold gp_l at h
      rw [hj, if_pos rfl] at h
      obtain ⟨q0, e, h2⟩ := gb_inr h
      exact ca_loop hlv hg m q0.1 _ q (ca_app (ca_app hc (hg _ q0 e)) (ca_one (ca_j hlv hj))) h2
