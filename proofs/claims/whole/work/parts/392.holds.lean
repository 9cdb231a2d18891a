/-! A RING HOLDS A CYCLE THAT THE WALK OFFERS -/
def fy_a (sv : pv_V) (M : Nat → Nat) (f : Nat) : Nat → Nat
  | 0 => f
  | i + 1 => M (sv (fy_a sv M f i) 3)
theorem fy_add {sv : pv_V} {M : Nat → Nat} {f j : Nat} : ∀ i, fy_a sv M f (i + j) = fy_a sv M (fy_a sv M f j) i
  | 0 => by rw [Nat.zero_add]; rfl
  | i + 1 => by
    rw [show i + 1 + j = (i + j) + 1 by omega]
    show M (sv (fy_a sv M f (i + j)) 3) = M (sv (fy_a sv M (fy_a sv M f j) i) 3)
    rw [fy_add i]
def fy_b (a : Nat → Nat) : Nat → Nat
  | 0 => 2 ^ a 0
  | j + 1 => fy_b a j ||| 2 ^ a (j + 1)
theorem fy_2 {j i : Nat} : (2 ^ j).testBit i = true ↔ i = j := by
  have := fo_or (n := 0) (j := j) (i := i)
  rw [Nat.zero_or] at this
  rw [this, Nat.zero_testBit]
  simp
theorem fy_bT {a : Nat → Nat} {k : Nat} : ∀ j, (fy_b a j).testBit k = true ↔ ∃ i, i ≤ j ∧ a i = k
  | 0 => by
    show (2 ^ a 0).testBit k = true ↔ _
    rw [fy_2]
    constructor
    · intro h
      exact ⟨0, Nat.le_refl _, h.symm⟩
    · rintro ⟨i, hi, h⟩
      rw [← h, show i = 0 by omega]
  | j + 1 => by
    show (fy_b a j ||| 2 ^ a (j + 1)).testBit k = true ↔ _
    rw [fo_or, fy_bT j]
    constructor
    · rintro (⟨i, hi, h⟩ | h)
      · exact ⟨i, by omega, h⟩
      · exact ⟨j + 1, Nat.le_refl _, h.symm⟩
    · rintro ⟨i, hi, h⟩
      by_cases e : i = j + 1
      · rw [e] at h
        exact Or.inr h.symm
      · exact Or.inl ⟨i, by omega, h⟩
theorem fy_bc {a : Nat → Nat} : ∀ j, bc_n (fy_b a j) ≤ j + 1
  | 0 => by
    have h := bc_or 0 (a 0)
    rw [Nat.zero_or, show bc_n 0 = 0 by decide] at h
    exact h
  | j + 1 => by
    have h := bc_or (fy_b a j) (a (j + 1))
    have h2 := fy_bc (a := a) j
    show bc_n (fy_b a j ||| 2 ^ a (j + 1)) ≤ _
    omega
section FB
variable {c s m g y : Nat} {sv cv : pv_V}
theorem fy_next (hB : pv_B c s sv cv) (hm : m ≤ s) (hy : ∀ i, y.testBit i = true → i < m ∧ sv i 1 = g) (hbal : rg_bal sv s y) {k : Nat} (hk : y.testBit k = true) : ∃ k', y.testBit k' = true ∧ sv k' 2 = sv k 3 := by
  rcases Classical.em (∃ k', y.testBit k' = true ∧ sv k' 2 = sv k 3) with h | h
  · exact h
  · exfalso
    have hks : k < s := by have := (hy k hk).1; omega
    have hno : ∀ i, y.testBit i = true → ¬ sv i 2 = sv k 3 := fun i hi e => h ⟨i, hi, e⟩
    have h10 := (hB.2.2.1 k hks).2.2.2.1
    have h0 := hbal (sv k 3) h10
    have hnn := si_nn (f := fun i => (-1) * rg_f sv y (sv k 3) i) (fun i => by
      show 0 ≤ (-1) * rg_f sv y (sv k 3) i
      unfold rg_f
      cases hi : y.testBit i with
      | false => simp
      | true =>
        rw [if_pos rfl, if_neg (hno i hi)]
        split <;> omega) s
    have e : fb_si (fun i => (-1) * rg_f sv y (sv k 3) i) s = 0 := by
      rw [fb_si_mul]
      show -1 * rg_off sv y (sv k 3) s = 0
      rw [h0]
      rfl
    have h1 : (-1 : Int) * rg_f sv y (sv k 3) k = 0 := hnn.2 e k hks
    unfold rg_f at h1
    rw [hk, if_pos rfl, if_neg (hno k hk), if_pos rfl] at h1
    omega
theorem fy_M (hB : pv_B c s sv cv) (hm : m ≤ s) (hy : ∀ i, y.testBit i = true → i < m ∧ sv i 1 = g) (hbal : rg_bal sv s y) : ∃ M : Nat → Nat, ∀ k, y.testBit k = true → y.testBit (M (sv k 3)) = true ∧ sv (M (sv k 3)) 2 = sv k 3 := by
  obtain ⟨M, hM⟩ := Classical.axiomOfChoice (r := fun x k' => (∃ k, y.testBit k = true ∧ sv k 3 = x) → y.testBit k' = true ∧ sv k' 2 = x) (fun x => by
    rcases Classical.em (∃ k, y.testBit k = true ∧ sv k 3 = x) with ⟨k, hk, rfl⟩ | h
    · obtain ⟨k', h1, h2⟩ := fy_next hB hm hy hbal hk
      exact ⟨k', fun _ => ⟨h1, h2⟩⟩
    · exact ⟨0, fun z => absurd z h⟩)
  exact ⟨M, fun k hk => hM (sv k 3) ⟨k, hk, rfl⟩⟩
theorem fy_main (hB : pv_B c s sv cv) (hm : m ≤ s) (hy : ∀ i, y.testBit i = true → i < m ∧ sv i 1 = g) (hne : y ≠ 0) (hr : rg_ring sv s y) : ∃ z, fo_A sv m g z ∧ ∀ k, z.testBit k = true → y.testBit k = true := by
  obtain ⟨ham, hbal, -⟩ := hr
  obtain ⟨M, hM⟩ := fy_M hB hm hy hbal
  have hay : ∀ p, y.testBit p = true → ∀ i, y.testBit (fy_a sv M p i) = true := fun p hp i => by
    induction i with
    | zero => exact hp
    | succ i ih => exact (hM _ ih).1
  obtain ⟨k0, hk0⟩ := Nat.exists_testBit_of_ne_zero hne
  have hper : ∃ p, y.testBit p = true ∧ ∃ l, 1 ≤ l ∧ fy_a sv M p l = p := by
    obtain ⟨i, j, h1, h2, h3⟩ := fb_twice (m := m) (n := m + 1) (f := fy_a sv M k0) (fun i _ => (hy _ (hay k0 hk0 i)).1) (by omega)
    refine ⟨fy_a sv M k0 i, hay k0 hk0 i, j - i, by omega, ?_⟩
    rw [← fy_add, show j - i + i = j by omega, h3]
  obtain ⟨f, ⟨hf, l0, hl0, hl1⟩, hfm⟩ := pk_least (fun p => y.testBit p = true ∧ ∃ l, 1 ≤ l ∧ fy_a sv M p l = p) hper
  obtain ⟨l, ⟨hl, hlf⟩, hlm⟩ := pk_least (fun l => 1 ≤ l ∧ fy_a sv M f l = f) ⟨l0, hl0, hl1⟩
  have ay := hay f hf
  have as : ∀ i, sv (fy_a sv M f (i + 1)) 2 = sv (fy_a sv M f i) 3 := fun i => (hM _ (ay i)).2
  have age : ∀ i, f ≤ fy_a sv M f i := fun i => by
    rcases Nat.lt_or_ge (fy_a sv M f i) f with h | h
    · refine absurd ⟨ay i, l, hl, ?_⟩ (hfm _ h)
      rw [← fy_add, Nat.add_comm, fy_add, hlf]
    · exact h
  have ane : ∀ i, 1 ≤ i → i < l → fy_a sv M f i ≠ f := fun i h1 h2 e => hlm i h2 ⟨h1, e⟩
  have inj : ∀ i j, i < j → j < l → sv (fy_a sv M f i) 3 ≠ sv (fy_a sv M f j) 3 := fun i j h1 h2 e => by
    have e1 : fy_a sv M f (i + 1) = fy_a sv M f (j + 1) := congrArg M e
    refine ane (l - (j + 1) + (i + 1)) (by omega) (by omega) ?_
    rw [fy_add, e1, ← fy_add, show l - (j + 1) + (j + 1) = l by omega, hlf]
  have hst : ∀ i, fy_a sv M f i < s := fun i => by have := (hy _ (ay i)).1; omega
  have l10 : l ≤ 10 := fb_holes 10 l (fun i => sv (fy_a sv M f i) 3) (fun i _ => (hB.2.2.1 _ (hst i)).2.2.2.1) inj
  have l2 : 2 ≤ l := by
    rcases Nat.lt_or_ge l 2 with h | h
    · exfalso
      have e1 : l = 1 := by omega
      have e2 := as 0
      rw [e1] at hlf
      rw [Nat.zero_add, hlf] at e2
      exact (hB.2.2.1 f (hst 0)).2.2.2.2.1 e2
    · exact h
  have hcl : sv (fy_a sv M f (l - 1)) 3 = sv f 2 := by
    have e2 := as (l - 1)
    rw [show l - 1 + 1 = l by omega, hlf] at e2
    exact e2.symm
  have claim : ∀ e j d, j + e + 2 = l → e + 1 ≤ d → fo_O sv m f d (sv (fy_a sv M f j) 3) (fy_b (fy_a sv M f) j) (fy_b (fun i => sv (fy_a sv M f i) 3) j) (fy_b (fy_a sv M f) (l - 1)) := fun e => by
    induction e with
    | zero =>
      intro j d hj hd
      obtain ⟨d', rfl⟩ : ∃ d', d = d' + 1 := ⟨d - 1, by omega⟩
      have hbc := fy_bc (a := fy_a sv M f) j
      have h1 := age (j + 1)
      have h2 := ane (j + 1) (by omega) (by omega)
      have h3 := hy _ (ay (j + 1))
      have h4 := hy _ hf
      refine ⟨by omega, fy_a sv M f (j + 1), by omega, h3.1, ⟨as j, by rw [h3.2, h4.2], ham _ _ (hst _) (hst 0) (ay (j + 1)) hf⟩, Or.inl ⟨?_, ?_⟩⟩
      · rw [show j + 1 = l - 1 by omega]
        exact hcl
      · rw [show l - 1 = j + 1 by omega]
        rfl
    | succ e ih =>
      intro j d hj hd
      obtain ⟨d', rfl⟩ : ∃ d', d = d' + 1 := ⟨d - 1, by omega⟩
      have hbc := fy_bc (a := fy_a sv M f) j
      have h1 := age (j + 1)
      have h2 := ane (j + 1) (by omega) (by omega)
      have h3 := hy _ (ay (j + 1))
      have h4 := hy _ hf
      refine ⟨by omega, fy_a sv M f (j + 1), by omega, h3.1, ⟨as j, by rw [h3.2, h4.2], ham _ _ (hst _) (hst 0) (ay (j + 1)) hf⟩, Or.inr ⟨?_, ?_, ih (j + 1) d' (by omega) (by omega)⟩⟩
      · rw [← hcl]
        exact inj (j + 1) (l - 1) (by omega) (by omega)
      · cases hv : (fy_b (fun i => sv (fy_a sv M f i) 3) j).testBit (sv (fy_a sv M f (j + 1)) 3) with
        | false => rfl
        | true =>
          obtain ⟨i, hi, he⟩ := (fy_bT j).mp hv
          exact absurd he (inj i (j + 1) (by omega) (by omega))
  refine ⟨fy_b (fy_a sv M f) (l - 1), ⟨f, (hy f hf).1, (hy f hf).2, claim (l - 2) 0 12 (by omega) (by omega)⟩, fun k hk => ?_⟩
  obtain ⟨i, -, rfl⟩ := (fy_bT _).mp hk
  exact ay i
end FB
