/-! what can be reached: hands as bits -/
def rr_m (sv : pv_V) (b M : Nat) : Nat → Nat
  | 0 => M
  | k + 1 => if b.testBit k && (rr_m sv b M k).testBit (sv k 2) then rr_m sv b M k ||| 2 ^ sv k 3 else rr_m sv b M k
def rr_c (sv : pv_V) (b M : Nat) : Nat → Nat
  | 0 => M
  | k + 1 => if b.testBit k && (rr_c sv b M k == 0 || (rr_c sv b M k).testBit (sv k 2)) then rr_c sv b M k ||| (2 ^ sv k 2 ||| 2 ^ sv k 3) else rr_c sv b M k
def rr_R (sv : pv_V) (b s : Nat) : Nat → Nat
  | 0 => 0
  | r + 1 => rr_c sv b (rr_R sv b s r) s
/-- closed under the sales of b -/
def rr_C (sv : pv_V) (s b : Nat) (C : Nat → Prop) : Prop := ∀ k, k < s → b.testBit k = true → C (sv k 2) → C (sv k 3)
theorem rr_mS {sv : pv_V} {b M x : Nat} : ∀ k, M.testBit x = true → (rr_m sv b M k).testBit x = true := by
  intro k h
  induction k with
  | zero => exact h
  | succ k ih =>
    show (if _ then _ else _ : Nat).testBit x = true
    split
    · rw [Nat.testBit_or, ih]; rfl
    · exact ih
theorem rr_mL {sv : pv_V} {s b M : Nat} {C : Nat → Prop} (hC : rr_C sv s b C) (hM : ∀ x, M.testBit x = true → C x) : ∀ k, k ≤ s → ∀ x, (rr_m sv b M k).testBit x = true → C x := by
  intro k
  induction k with
  | zero => intro _ x h; exact hM x h
  | succ k ih =>
    intro hk x h
    have h : (if b.testBit k && (rr_m sv b M k).testBit (sv k 2) then rr_m sv b M k ||| 2 ^ sv k 3 else rr_m sv b M k).testBit x = true := h
    split at h
    · rename_i hc
      rw [Bool.and_eq_true] at hc
      rw [Nat.testBit_or, Bool.or_eq_true] at h
      rcases h with h | h
      · exact ih (by omega) x h
      · rw [Nat.testBit_two_pow, decide_eq_true_iff] at h
        rw [← h]
        exact hC k (by omega) hc.1 (ih (by omega) _ hc.2)
    · exact ih (by omega) x h
theorem rr_mge {sv : pv_V} {b M : Nat} : ∀ k i, rr_m sv b M k ≤ rr_m sv b M (k + i) := by
  intro k i
  induction i with
  | zero => exact Nat.le_refl _
  | succ i ih =>
    refine Nat.le_trans ih ?_
    show _ ≤ (if _ then _ else _ : Nat)
    split
    · exact Nat.left_le_or
    · exact Nat.le_refl _
/-- where nothing more comes it is closed -/
theorem rr_mE {sv : pv_V} {s b M : Nat} (h : rr_m sv b M s = M) : rr_C sv s b (fun x => M.testBit x = true) := by
  intro k hk hb h2
  have e1 : rr_m sv b M k = M := by
    have a := rr_mge (sv := sv) (b := b) (M := M) 0 k
    have d := rr_mge (sv := sv) (b := b) (M := M) k (s - k)
    rw [Nat.zero_add] at a
    rw [show k + (s - k) = s by omega, h] at d
    have a : M ≤ rr_m sv b M k := a
    omega
  have e2 : rr_m sv b M (k + 1) = M := by
    have a := rr_mge (sv := sv) (b := b) (M := M) 0 (k + 1)
    have d := rr_mge (sv := sv) (b := b) (M := M) (k + 1) (s - (k + 1))
    rw [Nat.zero_add] at a
    rw [show k + 1 + (s - (k + 1)) = s by omega, h] at d
    have a : M ≤ rr_m sv b M (k + 1) := a
    omega
  have e3 : rr_m sv b M (k + 1) = M ||| 2 ^ sv k 3 := by
    show (if b.testBit k && (rr_m sv b M k).testBit (sv k 2) then rr_m sv b M k ||| 2 ^ sv k 3 else rr_m sv b M k) = _
    rw [e1, hb, h2]
    rfl
  rw [e2] at e3
  show M.testBit (sv k 3) = true
  rw [e3, Nat.testBit_or, Nat.testBit_two_pow_self, Bool.or_true]
theorem rr_m10 {c s : Nat} {sv cv : pv_V} (hB : pv_B c s sv cv) {b M : Nat} (hM : M < 2 ^ 10) : ∀ k, k ≤ s → rr_m sv b M k < 2 ^ 10 := by
  intro k
  induction k with
  | zero => intro _; exact hM
  | succ k ih =>
    intro hk
    have g := hB.2.2.1 k (by omega)
    show (if _ then _ else _ : Nat) < _
    split
    · exact Nat.or_lt_two_pow (ih (by omega)) (Nat.pow_lt_pow_right (by decide) g.2.2.2.1)
    · exact ih (by omega)
theorem rr_c10 {c s : Nat} {sv cv : pv_V} (hB : pv_B c s sv cv) {b M : Nat} (hM : M < 2 ^ 10) : ∀ k, k ≤ s → rr_c sv b M k < 2 ^ 10 := by
  intro k
  induction k with
  | zero => intro _; exact hM
  | succ k ih =>
    intro hk
    have g := hB.2.2.1 k (by omega)
    show (if _ then _ else _ : Nat) < _
    split
    · exact Nat.or_lt_two_pow (ih (by omega)) (Nat.or_lt_two_pow (Nat.pow_lt_pow_right (by decide) g.2.2.1) (Nat.pow_lt_pow_right (by decide) g.2.2.2.1))
    · exact ih (by omega)
theorem rr_R10 {c s : Nat} {sv cv : pv_V} (hB : pv_B c s sv cv) {b : Nat} : ∀ r, rr_R sv b s r < 2 ^ 10 := by
  intro r
  induction r with
  | zero => exact Nat.two_pow_pos 10
  | succ r ih => exact rr_c10 hB ih s (Nat.le_refl _)
theorem rr_cS {sv : pv_V} {b M x : Nat} : ∀ k i, (rr_c sv b M k).testBit x = true → (rr_c sv b M (k + i)).testBit x = true := by
  intro k i h
  induction i with
  | zero => exact h
  | succ i ih =>
    show (if _ then _ else _ : Nat).testBit x = true
    split
    · have ih' : (rr_c sv b M (k.add i)).testBit x = true := ih
      rw [Nat.testBit_or, ih']; rfl
    · exact ih
theorem rr_cge {sv : pv_V} {b M : Nat} : ∀ k i, rr_c sv b M k ≤ rr_c sv b M (k + i) := by
  intro k i
  induction i with
  | zero => exact Nat.le_refl _
  | succ i ih =>
    refine Nat.le_trans ih ?_
    show _ ≤ (if _ then _ else _ : Nat)
    split
    · exact Nat.left_le_or
    · exact Nat.le_refl _
/-- where it is nothing, no sale of b came -/
theorem rr_c0 {sv : pv_V} {b M : Nat} : ∀ k, rr_c sv b M k = 0 → ∀ j, j < k → b.testBit j = false := by
  intro k h j hj
  have h1 : rr_c sv b M (j + 1) = 0 := by
    have := rr_cge (sv := sv) (b := b) (M := M) (j + 1) (k - (j + 1))
    rw [show j + 1 + (k - (j + 1)) = k by omega, h] at this
    omega
  have h2 : rr_c sv b M j = 0 := by
    have := rr_cge (sv := sv) (b := b) (M := M) j 1
    rw [h1] at this
    omega
  cases hb : b.testBit j with
  | false => rfl
  | true =>
    exfalso
    have h3 : rr_c sv b M (j + 1) = rr_c sv b M j ||| (2 ^ sv j 2 ||| 2 ^ sv j 3) := by
      show (if b.testBit j && (rr_c sv b M j == 0 || (rr_c sv b M j).testBit (sv j 2)) then rr_c sv b M j ||| (2 ^ sv j 2 ||| 2 ^ sv j 3) else rr_c sv b M j) = _
      rw [hb, h2]
      rfl
    rw [h1, h2] at h3
    have h4 : (0 : Nat).testBit (sv j 2) = true := by
      rw [h3, Nat.testBit_or, Nat.testBit_or, Nat.testBit_two_pow_self]
      simp
    rw [Nat.zero_testBit] at h4
    cases h4
theorem rr_cL {sv : pv_V} {s b M k0 : Nat} {C : Nat → Prop} (hC : rr_C sv s b C) (hM : ∀ x, M.testBit x = true → C x) (hk0 : b.testBit k0 = true) (hf : ∀ j, j < k0 → b.testBit j = false) (hC0 : C (sv k0 2)) : ∀ k, k ≤ s → ∀ x, (rr_c sv b M k).testBit x = true → C x := by
  intro k
  induction k with
  | zero => intro _ x h; exact hM x h
  | succ k ih =>
    intro hk x h
    have h : (if b.testBit k && (rr_c sv b M k == 0 || (rr_c sv b M k).testBit (sv k 2)) then rr_c sv b M k ||| (2 ^ sv k 2 ||| 2 ^ sv k 3) else rr_c sv b M k).testBit x = true := h
    split at h
    · rename_i hc
      rw [Bool.and_eq_true, Bool.or_eq_true] at hc
      have hs2 : C (sv k 2) := by
        rcases hc.2 with h1 | h1
        · rw [beq_iff_eq] at h1
          have h2 := rr_c0 k h1
          have : k = k0 := by
            rcases Nat.lt_trichotomy k k0 with g | g | g
            · rw [hf k g] at hc
              exact absurd hc.1 (by decide)
            · exact g
            · rw [h2 k0 g] at hk0
              cases hk0
          rw [this]
          exact hC0
        · exact ih (by omega) _ h1
      rw [Nat.testBit_or, Nat.testBit_or, Bool.or_eq_true, Bool.or_eq_true] at h
      rcases h with h | h | h
      · exact ih (by omega) x h
      · rw [Nat.testBit_two_pow, decide_eq_true_iff] at h
        rw [← h]
        exact hs2
      · rw [Nat.testBit_two_pow, decide_eq_true_iff] at h
        rw [← h]
        exact hC k (by omega) hc.1 hs2
    · exact ih (by omega) x h
theorem rr_cE {sv : pv_V} {s b M : Nat} (h : rr_c sv b M s = M) : rr_C sv s b (fun x => M.testBit x = true) := by
  intro k hk hb h2
  have e1 : rr_c sv b M k = M := by
    have a := rr_cge (sv := sv) (b := b) (M := M) 0 k
    have d := rr_cge (sv := sv) (b := b) (M := M) k (s - k)
    rw [Nat.zero_add] at a
    rw [show k + (s - k) = s by omega, h] at d
    have a : M ≤ rr_c sv b M k := a
    omega
  have e2 : rr_c sv b M (k + 1) = M := by
    have a := rr_cge (sv := sv) (b := b) (M := M) 0 (k + 1)
    have d := rr_cge (sv := sv) (b := b) (M := M) (k + 1) (s - (k + 1))
    rw [Nat.zero_add] at a
    rw [show k + 1 + (s - (k + 1)) = s by omega, h] at d
    have a : M ≤ rr_c sv b M (k + 1) := a
    omega
  have e3 : rr_c sv b M (k + 1) = M ||| (2 ^ sv k 2 ||| 2 ^ sv k 3) := by
    show (if b.testBit k && (rr_c sv b M k == 0 || (rr_c sv b M k).testBit (sv k 2)) then rr_c sv b M k ||| (2 ^ sv k 2 ||| 2 ^ sv k 3) else rr_c sv b M k) = _
    rw [e1, hb, h2]
    simp
  rw [e2] at e3
  show M.testBit (sv k 3) = true
  rw [e3, Nat.testBit_or, Nat.testBit_or, Nat.testBit_two_pow_self]
  simp
/-- more bits -/
theorem rr_more {M N : Nat} (hN : N < 2 ^ 10) (hs : ∀ x, M.testBit x = true → N.testBit x = true) (hne : M ≠ N) : fb_ct (fun x => M.testBit x) 10 + 1 ≤ fb_ct (fun x => N.testBit x) 10 := by
  have e : fb_ct (fun x => N.testBit x) 10 = fb_ct (fun x => M.testBit x) 10 + fb_ct (fun x => N.testBit x && !M.testBit x) 10 := by
    rw [← fb_ct_or (fun k _ h => by
      rw [Bool.and_eq_true] at h
      rw [h.1] at h
      exact absurd h.2.2 (by decide))]
    apply fb_ct_cong
    intro k _
    cases hm : M.testBit k with
    | false => simp
    | true => rw [hs k hm]; rfl
  have p : 0 < fb_ct (fun x => N.testBit x && !M.testBit x) 10 := by
    rw [fb_ct_pos]
    apply Classical.byContradiction
    intro hn
    apply hne
    apply Nat.eq_of_testBit_eq
    intro i
    cases hm : M.testBit i with
    | true => rw [hs i hm]
    | false =>
      cases hv : N.testBit i with
      | false => rfl
      | true =>
        exfalso
        have hi : i < 10 := by
          rcases Nat.lt_or_ge i 10 with g | g
          · exact g
          · rw [Nat.testBit_lt_two_pow (Nat.lt_of_lt_of_le hN (Nat.pow_le_pow_right (by decide) g))] at hv
            cases hv
        exact hn ⟨i, hi, by rw [hv, hm]; rfl⟩
  omega
/-- after ten rounds nothing more comes -/
theorem rr_10 {c s : Nat} {sv cv : pv_V} (hB : pv_B c s sv cv) {b k0 : Nat} (hk : k0 < s) (hk0 : b.testBit k0 = true) : rr_R sv b s 11 = rr_R sv b s 10 := by
  have sub : ∀ r x, (rr_R sv b s r).testBit x = true → (rr_R sv b s (r + 1)).testBit x = true := fun r x h => by
    have := rr_cS (sv := sv) (b := b) (M := rr_R sv b s r) (x := x) 0 s h
    rw [Nat.zero_add] at this
    exact this
  have le10 : ∀ r, fb_ct (fun x => (rr_R sv b s r).testBit x) 10 ≤ 10 := fun r => fb_ct_le _ _
  have claim : ∀ r, rr_R sv b s (r + 2) = rr_R sv b s (r + 1) ∨ r + 2 ≤ fb_ct (fun x => (rr_R sv b s (r + 1)).testBit x) 10 := by
    intro r
    induction r with
    | zero =>
      right
      -- both ends of a sale
      have hne : rr_R sv b s 1 ≠ 0 := fun e => by
        have := rr_c0 (sv := sv) (b := b) (M := rr_R sv b s 0) s e k0 hk
        rw [this] at hk0
        cases hk0
      obtain ⟨k1, q1, q2⟩ := fb_first (p := fun k => b.testBit k = true) (n := s) ⟨k0, hk, hk0⟩
      have q3 : ∀ j, j < k1 → b.testBit j = false := fun j hj => by
        cases h : b.testBit j with
        | false => rfl
        | true => exact absurd h (q2.2 j hj)
      have z : ∀ k, k ≤ k1 → rr_c sv b 0 k = 0 := by
        intro k
        induction k with
        | zero => intro _; rfl
        | succ k ih =>
          intro hk'
          show (if b.testBit k && _ then _ else _ : Nat) = 0
          rw [q3 k (by omega)]
          exact ih (by omega)
      have e : rr_c sv b 0 (k1 + 1) = 0 ||| (2 ^ sv k1 2 ||| 2 ^ sv k1 3) := by
        show (if b.testBit k1 && (rr_c sv b 0 k1 == 0 || (rr_c sv b 0 k1).testBit (sv k1 2)) then rr_c sv b 0 k1 ||| (2 ^ sv k1 2 ||| 2 ^ sv k1 3) else rr_c sv b 0 k1) = _
        rw [q2.1, z k1 (Nat.le_refl _)]
        rfl
      have g := hB.2.2.1 k1 q1
      have t2 : (rr_R sv b s 1).testBit (sv k1 2) = true := by
        have := rr_cS (sv := sv) (b := b) (M := 0) (x := sv k1 2) (k1 + 1) (s - (k1 + 1)) (by rw [e, Nat.testBit_or, Nat.testBit_or, Nat.testBit_two_pow_self]; simp)
        rw [show k1 + 1 + (s - (k1 + 1)) = s by omega] at this
        exact this
      have t3 : (rr_R sv b s 1).testBit (sv k1 3) = true := by
        have := rr_cS (sv := sv) (b := b) (M := 0) (x := sv k1 3) (k1 + 1) (s - (k1 + 1)) (by rw [e, Nat.testBit_or, Nat.testBit_or, Nat.testBit_two_pow_self]; simp)
        rw [show k1 + 1 + (s - (k1 + 1)) = s by omega] at this
        exact this
      have m1 := rr_more (M := 0) (N := 2 ^ sv k1 2) (Nat.pow_lt_pow_right (by decide) g.2.2.1) (fun x h => by rw [Nat.zero_testBit] at h; cases h) (fun z => by have := Nat.two_pow_pos (sv k1 2); omega)
      have m2 := rr_more (M := 2 ^ sv k1 2) (N := rr_R sv b s 1) (rr_R10 hB 1) (fun x h => by
        rw [Nat.testBit_two_pow, decide_eq_true_iff] at h
        rw [← h]
        exact t2) (fun z => by
        rw [← z, Nat.testBit_two_pow, decide_eq_true_iff] at t3
        exact g.2.2.2.2.1 t3)
      show 0 + 2 ≤ fb_ct (fun x => (rr_R sv b s 1).testBit x) 10
      omega
    | succ r ih =>
      by_cases he : rr_R sv b s (r + 2) = rr_R sv b s (r + 1)
      · left
        show rr_c sv b (rr_R sv b s (r + 2)) s = rr_R sv b s (r + 2)
        rw [he]
        exact he
      · right
        rcases ih with h | h
        · exact absurd h he
        · have := rr_more (M := rr_R sv b s (r + 1)) (N := rr_R sv b s (r + 2)) (rr_R10 hB _) (sub (r + 1)) (Ne.symm he)
          show r + 1 + 2 ≤ fb_ct (fun x => (rr_R sv b s (r + 2)).testBit x) 10
          omega
  rcases claim 9 with h | h
  · exact h
  · have := le10 10
    have h : 9 + 2 ≤ fb_ct (fun x => (rr_R sv b s 10).testBit x) 10 := h
    omega
