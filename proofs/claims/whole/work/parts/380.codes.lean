/-! THE CODES OF A TEXT are small, and stand among its tokens -/
theorem cb_tk {bs : Nat → Nat} {sz p z t : Nat} (h : tz_tk bs sz p z t) : t < 20000 := by
  rcases h with ⟨-, -, -, h⟩ | ⟨-, h1, -, h⟩ | ⟨-, -, -, h⟩
  · rcases h with ⟨w, hw, -, e⟩ | ⟨-, e⟩ <;> omega
  · rcases h with ⟨h4, e⟩ | ⟨-, e⟩
    · have h5 := te_num_lt bs p (z - p) (fun i a b => (h1 i a (by omega)).2)
      have h6 : 10 ^ (z - p) ≤ 10 ^ 4 := Nat.pow_le_pow_right (by decide) h4
      omega
    · omega
  · rcases h with ⟨hs, e⟩ | ⟨-, e⟩
    · unfold tz_si at hs; omega
    · omega
theorem cb_st {bs : Nat → Nat} {sz tc : Nat} {tk pl st : Nat → Nat} (hT : tz_T bs sz tk pl st tc) : ∀ j, j ≤ tc → j ≤ st j
  | 0, _ => Nat.zero_le _
  | j + 1, h => by
    have h1 := cb_st hT j (by omega)
    have h2 := hT.2.1 j (by omega)
    omega
theorem cb_tc {bs : Nat → Nat} {sz tc : Nat} {tk pl st : Nat → Nat} (hT : tz_T bs sz tk pl st tc) : tc ≤ sz := by
  have h1 := cb_st hT tc (Nat.le_refl _)
  have h2 := hT.2.2.1
  omega
theorem cb_T {bs : Nat → Nat} {sz tc : Nat} {tk pl st : Nat → Nat} (hT : tz_T bs sz tk pl st tc) : ∀ j, j ≤ tc → tk j < 20000 := fun j hj => by
  rcases Nat.lt_or_ge j tc with g | g
  · exact cb_tk (hT.2.1 j g).2.2.2.2.2.2
  · rw [show j = tc by omega, hT.2.2.2.2.2]; omega
section CB
variable {tk : Nat → Nat} {tc : Nat}
def cb_R (tc : Nat) (q : Nat × List Nat) : Prop := q.1 ≤ tc ∧ ∀ x, x ∈ q.2 → x < 20000
theorem cb_app {c d : List Nat} (h : ∀ x, x ∈ c → x < 20000) (h2 : ∀ x, x ∈ d → x < 20000) : ∀ x, x ∈ c ++ d → x < 20000 := fun x hx => by
  rcases List.mem_append.mp hx with g | g
  · exact h x g
  · exact h2 x g
theorem cb_one {y : Nat} (h : y < 20000) : ∀ x, x ∈ [y] → x < 20000 := fun x hx => by
  rw [List.mem_singleton.mp hx]
  exact h
theorem cb_lt (h20 : tk tc = 20) {a : Nat} (ha : a ≤ tc) (h : tk a ≠ 20) : a < tc := by
  rcases Nat.lt_or_ge a tc with g | g
  · exact g
  · exfalso
    rw [show a = tc by omega] at h
    exact h h20
theorem cb_loop (h20 : tk tc = 20) (hb : ∀ j, j ≤ tc → tk j < 20000) {g : Nat → gp_R} {lv : Nat} (hlv : lv < 5) (hg : ∀ a q, a ≤ tc → g a = .inr q → cb_R tc q) : ∀ (m a : Nat) (c : List Nat) (q : Nat × List Nat), a ≤ tc → (∀ x, x ∈ c → x < 20000) → gp_l tk g lv m a c = .inr q → cb_R tc q
  | 0, a, c, q, ha, hc, h => by
    cases h
    exact ⟨ha, hc⟩
  | m + 1, a, c, q, ha, hc, h => by
    cases hj : gp_j (tk a) lv with
    | false =>
      unfold gp_l at h
      rw [hj] at h
      cases h
      exact ⟨ha, hc⟩
    | true =>
      have hca := ca_j hlv hj
      have hlt := cb_lt h20 ha (by unfold cA cO at hca; omega)
      unfold gp_l at h
      rw [hj, if_pos rfl] at h
      obtain ⟨q0, e, h2⟩ := gb_inr h
      have h3 := hg _ q0 hlt e
      exact cb_loop h20 hb hlv hg m q0.1 _ q h3.1 (cb_app (cb_app hc h3.2) (cb_one (hb a ha))) h2
theorem cb_main (h20 : tk tc = 20) (hb : ∀ j, j ≤ tc → tk j < 20000) : ∀ (k lv op a : Nat) (q : Nat × List Nat), lv ≤ 5 → a ≤ tc → gp tk k lv op a = .inr q → cb_R tc q := by
  intro k
  induction k with
  | zero =>
    intro lv op a q hl ha h
    cases h
  | succ k ih =>
    intro lv op a q hl ha h
    by_cases h2 : lv = 2
    · subst h2
      replace h : (if tk a = 8 then (if op < 5 then gp_b (gp tk k 2 (op + 1) (a + 1)) (fun a' c' => .inr (a', c' ++ [8])) else .inl a) else gp_b (gp tk k 3 op a) (fun a1 c1 => if tk a1 = 60 ∨ tk a1 = 61 then gp_b (gp tk k 3 op (a1 + 1)) (fun a2 c2 => .inr (a2, c1 ++ c2 ++ [tk a1])) else .inr (a1, c1))) = (.inr q : gp_R) := h
      by_cases h8 : tk a = 8
      · rw [if_pos h8] at h
        by_cases ho : op < 5
        · rw [if_pos ho] at h
          obtain ⟨q0, e, g⟩ := gb_inr h
          have h3 := ih 2 _ _ q0 (by omega) (cb_lt h20 ha (by omega)) e
          cases g
          exact ⟨h3.1, cb_app h3.2 (cb_one (by omega))⟩
        · rw [if_neg ho] at h
          cases h
      · rw [if_neg h8] at h
        obtain ⟨q0, e, g⟩ := gb_inr h
        have i0 := ih 3 _ _ q0 (by omega) ha e
        by_cases hr : tk q0.1 = 60 ∨ tk q0.1 = 61
        · rw [if_pos hr] at g
          obtain ⟨q1, e1, g1⟩ := gb_inr g
          have i1 := ih 3 _ _ q1 (by omega) (cb_lt h20 i0.1 (by omega)) e1
          cases g1
          exact ⟨i1.1, cb_app (cb_app i0.2 i1.2) (cb_one (by omega))⟩
        · rw [if_neg hr] at g
          cases g
          exact i0
    · by_cases h5 : lv = 5
      · subst h5
        replace h : (if tk a < 6 ∨ 100 ≤ tk a then .inr (a + 1, [tk a]) else if tk a = 45 then (if op < 5 then gp_b (gp tk k 5 (op + 1) (a + 1)) (fun a' c' => .inr (a', c' ++ [22])) else .inl a) else if tk a = 40 then (if op < 5 then gp_b (gp tk k 0 (op + 1) (a + 1)) (fun a' c' => if tk a' = 41 then .inr (a' + 1, c') else .inl a') else .inl a) else .inl a) = (.inr q : gp_R) := h
        by_cases hx : tk a < 6 ∨ 100 ≤ tk a
        · rw [if_pos hx] at h
          cases h
          exact ⟨cb_lt h20 ha (by omega), cb_one (hb a ha)⟩
        · rw [if_neg hx] at h
          by_cases h45 : tk a = 45
          · rw [if_pos h45] at h
            by_cases ho : op < 5
            · rw [if_pos ho] at h
              obtain ⟨q0, e, g⟩ := gb_inr h
              have h3 := ih 5 _ _ q0 (by omega) (cb_lt h20 ha (by omega)) e
              cases g
              exact ⟨h3.1, cb_app h3.2 (cb_one (by omega))⟩
            · rw [if_neg ho] at h
              cases h
          · rw [if_neg h45] at h
            by_cases h40 : tk a = 40
            · rw [if_pos h40] at h
              by_cases ho : op < 5
              · rw [if_pos ho] at h
                obtain ⟨q0, e, g⟩ := gb_inr h
                have h3 := ih 0 _ _ q0 (by omega) (cb_lt h20 ha (by omega)) e
                by_cases h41 : tk q0.1 = 41
                · rw [if_pos h41] at g
                  cases g
                  exact ⟨cb_lt h20 h3.1 (by omega), h3.2⟩
                · rw [if_neg h41] at g
                  cases g
              · rw [if_neg ho] at h
                cases h
            · rw [if_neg h40] at h
              cases h
      · replace h : (if lv = 2 then _ else if lv = 5 then _ else gp_b (gp tk k (lv + 1) op a) (fun a1 c1 => gp_l tk (gp tk k (lv + 1) op) lv 160 a1 c1)) = (.inr q : gp_R) := h
        rw [if_neg h2, if_neg h5] at h
        obtain ⟨q0, e, g⟩ := gb_inr h
        have h3 := ih (lv + 1) op a q0 (by omega) ha e
        exact cb_loop h20 hb (by omega) (fun a q ha hq => ih (lv + 1) op a q (by omega) ha hq) 160 q0.1 q0.2 q h3.1 h3.2 g
def cb_Q (x : Nat) : Prop := cA x ∧ x < 20000
theorem cb_p (h20 : tk tc = 20) (hb : ∀ j, j ≤ tc → tk j < 20000) {j a : Nat} (hj : j < 3) (ha : a ≤ tc) {q : Nat × List Nat} (h : gp_p tk j a = .inr q) : q.1 ≤ tc ∧ ∀ x, x ∈ q.2 → cb_Q x := by
  unfold gp_p at h
  by_cases h9 : tk a = 9 + j
  · rw [if_pos h9] at h
    obtain ⟨q0, e, g⟩ := gb_inr h
    have h3 := cb_main h20 hb 36 0 0 _ q0 (by omega) (cb_lt h20 ha (by omega)) e
    have h4 := ca_main 36 0 0 _ q0 (by omega) e
    by_cases h59 : tk q0.1 = 59
    · rw [if_pos h59] at g
      cases g
      exact ⟨cb_lt h20 h3.1 (by omega), fun x hx => ⟨h4 x hx, h3.2 x hx⟩⟩
    · rw [if_neg h59] at g
      cases g
  · rw [if_neg h9] at h
    cases h
theorem cb_t (h20 : tk tc = 20) (hb : ∀ j, j ≤ tc → tk j < 20000) {c : List Nat × List Nat × List Nat} (h : gp_t tk = .inr c) : (∀ x, x ∈ c.1 → cb_Q x) ∧ (∀ x, x ∈ c.2.1 → cb_Q x) ∧ ∀ x, x ∈ c.2.2 → cb_Q x := by
  unfold gp_t at h
  cases h0 : gp_p tk 0 0 with
  | inl f => rw [h0] at h; cases h
  | inr q0 =>
    rw [h0] at h
    simp only [] at h
    have g0 := cb_p h20 hb (by omega) (Nat.zero_le _) h0
    cases h1 : gp_p tk 1 q0.1 with
    | inl f => rw [h1] at h; cases h
    | inr q1 =>
      rw [h1] at h
      simp only [] at h
      have g1 := cb_p h20 hb (by omega) g0.1 h1
      cases h2 : gp_p tk 2 q1.1 with
      | inl f => rw [h2] at h; cases h
      | inr q2 =>
        rw [h2] at h
        simp only [] at h
        have g2 := cb_p h20 hb (by omega) g1.1 h2
        by_cases he : tk q2.1 = 20
        · rw [if_pos he] at h
          cases h
          exact ⟨g0.2, g1.2, g2.2⟩
        · rw [if_neg he] at h
          cases h
end CB
