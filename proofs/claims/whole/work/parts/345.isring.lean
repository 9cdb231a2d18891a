/-! where all sell as often as they buy, what is closed forward is closed backward -/
theorem si_swap (a : Nat → Nat → Int) (m : Nat) : ∀ n, fb_si (fun k => fb_si (fun x => a k x) m) n = fb_si (fun x => fb_si (fun k => a k x) n) m := by
  intro n
  induction n with
  | zero =>
    show (0 : Int) = _
    induction m with
    | zero => rfl
    | succ m ih => show (0 : Int) = fb_si _ m + 0; rw [← ih]; rfl
  | succ n ih =>
    show fb_si (fun k => fb_si (fun x => a k x) m) n + fb_si (fun x => a n x) m = _
    rw [ih, ← fb_si_add]
    rfl
theorem si_one (y : Nat) (C : Nat → Bool) : ∀ m, fb_si (fun x => if C x then (if y = x then (1 : Int) else 0) else 0) m = if y < m then (if C y then 1 else 0) else 0 := by
  intro m
  induction m with
  | zero => rfl
  | succ m ih =>
    show fb_si _ m + (if C m then (if y = m then (1 : Int) else 0) else 0) = _
    rw [ih]
    by_cases h : y = m
    · subst h
      rw [if_neg (Nat.lt_irrefl _), if_pos (Nat.lt_succ_self _), if_pos rfl]
      omega
    · rw [if_neg h]
      by_cases h2 : y < m
      · rw [if_pos h2, if_pos (show y < m + 1 by omega)]
        cases C m <;> simp
      · rw [if_neg h2, if_neg (show ¬ y < m + 1 by omega)]
        cases C m <;> simp
theorem si_nn {f : Nat → Int} (h : ∀ k, 0 ≤ f k) : ∀ n, 0 ≤ fb_si f n ∧ (fb_si f n = 0 → ∀ k, k < n → f k = 0) := by
  intro n
  induction n with
  | zero => exact ⟨Int.le_refl _, fun _ k hk => absurd hk (Nat.not_lt_zero k)⟩
  | succ n ih =>
    have e : fb_si f (n + 1) = fb_si f n + f n := rfl
    have := h n
    rw [e]
    refine ⟨by omega, fun z k hk => ?_⟩
    by_cases hkn : k = n
    · rw [hkn]; omega
    · exact ih.2 (by omega) k (by omega)
theorem rg_back {c s : Nat} {sv cv : pv_V} (hB : pv_B c s sv cv) {b : Nat} (hbal : rg_bal sv s b) {C : Nat → Prop} (hC : rr_C sv s b C) : ∀ k, k < s → b.testBit k = true → C (sv k 3) → C (sv k 2) := by
  obtain ⟨D, hD⟩ : ∃ D : Nat → Bool, ∀ x, D x = true ↔ C x := ⟨fun x => @decide _ (Classical.propDecidable (C x)), fun x => @decide_eq_true_iff _ (Classical.propDecidable _)⟩
  -- each sale's difference
  let t : Nat → Int := fun k => if k < s then (if b.testBit k then (if D (sv k 3) then 1 else 0) - (if D (sv k 2) then 1 else 0) else 0) else 0
  have ht : ∀ k, 0 ≤ t k := fun k => by
    show 0 ≤ (if k < s then (if b.testBit k then (if D (sv k 3) then (1 : Int) else 0) - (if D (sv k 2) then 1 else 0) else 0) else 0)
    by_cases hk : k < s
    · rw [if_pos hk]
      cases hb : b.testBit k with
      | false => simp
      | true =>
        cases h2 : D (sv k 2) with
        | false => cases D (sv k 3) <;> simp
        | true =>
          have := (hD _).mpr (hC k hk hb ((hD _).mp h2))
          rw [this]
          simp
    · rw [if_neg hk]
      exact Int.le_refl _
  have hsum : fb_si t s = 0 := by
    have e1 : fb_si t s = fb_si (fun k => fb_si (fun x => if D x then - rg_f sv b x k else 0) 10) s := by
      apply fb_si_cong
      intro k hk
      have g := hB.2.2.1 k hk
      show (if k < s then (if b.testBit k then (if D (sv k 3) then (1 : Int) else 0) - (if D (sv k 2) then 1 else 0) else 0) else 0) = _
      rw [if_pos hk]
      cases hb : b.testBit k with
      | false =>
        have : (fun x => if D x then - rg_f sv b x k else 0) = fun _ => (0 : Int) := by
          funext x
          unfold rg_f
          rw [hb]
          cases D x <;> simp
        rw [this]
        rfl
      | true =>
        have : (fun x => if D x then - rg_f sv b x k else 0) = fun x => (if D x then (if sv k 3 = x then (1 : Int) else 0) else 0) - (if D x then (if sv k 2 = x then 1 else 0) else 0) := by
          funext x
          unfold rg_f
          rw [hb]
          cases D x with
          | false => simp
          | true =>
            simp only [if_true]
            omega
        rw [this, fb_si_sub, si_one, si_one, if_pos g.2.2.2.1, if_pos g.2.2.1]
        simp
    rw [e1, si_swap]
    have e2 : fb_si (fun x => fb_si (fun k => if D x then - rg_f sv b x k else 0) s) 10 = fb_si (fun _ => 0) 10 := by
      apply fb_si_cong
      intro x hx
      cases hd : D x with
      | false =>
        simp only [Bool.false_eq_true, if_false]
        have := fb_si_mul 0 (fun _ => (0 : Int)) s
        simpa using this
      | true =>
        simp only [if_true]
        have := fb_si_mul (-1) (rg_f sv b x) s
        have hz : fb_si (rg_f sv b x) s = 0 := hbal x hx
        rw [hz] at this
        have e : (fun k => - rg_f sv b x k) = fun k => -1 * rg_f sv b x k := by
          funext k
          omega
        rw [e, this]
        rfl
    rw [e2]
    rfl
  intro k hk hb h3
  have hz := (si_nn ht s).2 hsum k hk
  have hz : (if k < s then (if b.testBit k then (if D (sv k 3) then (1 : Int) else 0) - (if D (sv k 2) then 1 else 0) else 0) else 0) = 0 := hz
  rw [if_pos hk, hb, if_pos rfl, if_pos ((hD _).mpr h3)] at hz
  cases h2 : D (sv k 2) with
  | true => exact (hD _).mp h2
  | false =>
    rw [h2] at hz
    simp at hz
/-- all hands of b -/
theorem rg_inT {sv : pv_V} {b x : Nat} : ∀ s, (rg_in sv b s).testBit x = true ↔ ∃ k, k < s ∧ b.testBit k = true ∧ (sv k 2 = x ∨ sv k 3 = x) := by
  intro s
  induction s with
  | zero =>
    show (0 : Nat).testBit x = true ↔ _
    rw [Nat.zero_testBit]
    constructor
    · intro h; cases h
    · rintro ⟨k, hk, -⟩
      exact absurd hk (Nat.not_lt_zero k)
  | succ s ih =>
    show (if b.testBit s then rg_in sv b s ||| (2 ^ sv s 2 ||| 2 ^ sv s 3) else rg_in sv b s).testBit x = true ↔ _
    cases hb : b.testBit s with
    | false =>
      rw [if_neg (by decide), ih]
      constructor
      · rintro ⟨k, h1, h2⟩
        exact ⟨k, by omega, h2⟩
      · rintro ⟨k, h1, h2⟩
        refine ⟨k, ?_, h2⟩
        have : k ≠ s := fun e => by
          rw [e, hb] at h2
          exact absurd h2.1 (by decide)
        omega
    | true =>
      rw [if_pos rfl, Nat.testBit_or, Nat.testBit_or, Bool.or_eq_true, Bool.or_eq_true, ih, Nat.testBit_two_pow, Nat.testBit_two_pow, decide_eq_true_iff, decide_eq_true_iff]
      constructor
      · rintro (⟨k, h1, h2⟩ | h | h)
        · exact ⟨k, by omega, h2⟩
        · exact ⟨s, by omega, hb, Or.inl h⟩
        · exact ⟨s, by omega, hb, Or.inr h⟩
      · rintro ⟨k, h1, h2, h3⟩
        by_cases hks : k = s
        · subst hks
          exact Or.inr h3
        · exact Or.inl ⟨k, by omega, h2, h3⟩
/-- least closed from h -/
def rg_X (sv : pv_V) (s b h X : Nat) : Prop := X.testBit h = true ∧ rr_C sv s b (fun x => X.testBit x = true) ∧ ∀ C : Nat → Prop, rr_C sv s b C → C h → ∀ x, X.testBit x = true → C x
/-- what a ring is -/
def rg_ring (sv : pv_V) (s b : Nat) : Prop := rg_am sv s b ∧ rg_bal sv s b ∧ ∀ h, (rg_in sv b s).testBit h = true → rg_X sv s b h (rg_in sv b s)
theorem rg_Xu {sv : pv_V} {s b h X Y : Nat} (a : rg_X sv s b h X) (d : rg_X sv s b h Y) : X = Y := by
  apply Nat.eq_of_testBit_eq
  intro i
  have p := a.2.2 _ d.2.1 d.1 i
  have q := d.2.2 _ a.2.1 a.1 i
  cases h1 : X.testBit i with
  | true => rw [p h1]
  | false =>
    cases h2 : Y.testBit i with
    | false => rfl
    | true => rw [q h2] at h1; cases h1
/-- the class's rounds: least closed from the first sale's seller -/
theorem rc_X {c s : Nat} {sv cv : pv_V} (hB : pv_B c s sv cv) {b k0 : Nat} (hk : k0 < s) (hk0 : b.testBit k0 = true) (hf : ∀ j, j < k0 → b.testBit j = false) : rg_X sv s b (sv k0 2) (rr_R sv b s 10) := by
  have h10 := rr_10 hB hk hk0
  have h10' : rr_c sv b (rr_R sv b s 10) s = rr_R sv b s 10 := h10
  refine ⟨?_, rr_cE h10', fun C hC h0 => ?_⟩
  · -- the first sale came in the first round
    have z : ∀ k, k ≤ k0 → rr_c sv b 0 k = 0 := by
      intro k
      induction k with
      | zero => intro _; rfl
      | succ k ih =>
        intro hk'
        show (if b.testBit k && _ then _ else _ : Nat) = 0
        rw [hf k (by omega)]
        exact ih (by omega)
    have e : rr_c sv b 0 (k0 + 1) = 0 ||| (2 ^ sv k0 2 ||| 2 ^ sv k0 3) := by
      show (if b.testBit k0 && (rr_c sv b 0 k0 == 0 || (rr_c sv b 0 k0).testBit (sv k0 2)) then rr_c sv b 0 k0 ||| (2 ^ sv k0 2 ||| 2 ^ sv k0 3) else rr_c sv b 0 k0) = _
      rw [hk0, z k0 (Nat.le_refl _)]
      rfl
    have t1 : (rr_R sv b s 1).testBit (sv k0 2) = true := by
      have := rr_cS (sv := sv) (b := b) (M := 0) (x := sv k0 2) (k0 + 1) (s - (k0 + 1)) (by rw [e, Nat.testBit_or, Nat.testBit_or, Nat.testBit_two_pow_self]; simp)
      rw [show k0 + 1 + (s - (k0 + 1)) = s by omega] at this
      exact this
    have up : ∀ r, (rr_R sv b s (r + 1)).testBit (sv k0 2) = true := by
      intro r
      induction r with
      | zero => exact t1
      | succ r ih =>
        have := rr_cS (sv := sv) (b := b) (M := rr_R sv b s (r + 1)) (x := sv k0 2) 0 s ih
        rw [Nat.zero_add] at this
        exact this
    exact up 9
  · have all : ∀ r x, (rr_R sv b s r).testBit x = true → C x := by
      intro r
      induction r with
      | zero =>
        intro x h
        have h : (0 : Nat).testBit x = true := h
        rw [Nat.zero_testBit] at h
        cases h
      | succ r ih =>
        intro x h
        exact rr_cL hC ih hk0 hf h0 s (Nat.le_refl _) x h
    exact all 10
/-- over balance: the class's ask is the reference's -/
theorem rg_eq {c s : Nat} {sv cv : pv_V} (hB : pv_B c s sv cv) {b : Nat} (h0 : 0 < b) (hb : b < 2 ^ s) (hbal : rg_bal sv s b) : rr_R sv b s 10 = rg_in sv b s ↔ ∀ h, (rg_in sv b s).testBit h = true → rg_X sv s b h (rg_in sv b s) := by
  obtain ⟨k, hk, hk0⟩ : ∃ k, k < s ∧ b.testBit k = true := by
    apply Classical.byContradiction
    intro hn
    have : b = 0 := by
      apply Nat.eq_of_testBit_eq
      intro i
      rw [Nat.zero_testBit]
      rcases Nat.lt_or_ge i s with g | g
      · cases h : b.testBit i with
        | false => rfl
        | true => exact absurd ⟨i, g, h⟩ hn
      · exact Nat.testBit_lt_two_pow (Nat.lt_of_lt_of_le hb (Nat.pow_le_pow_right (by decide) g))
    omega
  obtain ⟨k0, q1, q2⟩ := fb_first (p := fun k => b.testBit k = true) (n := s) ⟨k, hk, hk0⟩
  have q3 : ∀ j, j < k0 → b.testBit j = false := fun j hj => by
    cases h : b.testBit j with
    | false => rfl
    | true => exact absurd h (q2.2 j hj)
  have hY := rc_X hB q1 q2.1 q3
  have hin0 : (rg_in sv b s).testBit (sv k0 2) = true := (rg_inT s).mpr ⟨k0, q1, q2.1, Or.inl rfl⟩
  have hallC : rr_C sv s b (fun x => (rg_in sv b s).testBit x = true) := fun k hk hbk _ => (rg_inT s).mpr ⟨k, hk, hbk, Or.inr rfl⟩
  constructor
  · intro he h hh
    rw [he] at hY
    refine ⟨hh, hallC, fun C hC hCh x hx => ?_⟩
    -- the seller of the first sale lies in C
    have hs0 : C (sv k0 2) := by
      apply Classical.byContradiction
      intro hn
      have hD : rr_C sv s b (fun x => ¬ C x) := fun k hk hbk hnC hC3 => hnC (rg_back hB hbal hC k hk hbk hC3)
      exact hY.2.2 _ hD hn h hh hCh
    exact hY.2.2 C hC hs0 x hx
  · intro h
    exact rg_Xu hY (h _ hin0)
