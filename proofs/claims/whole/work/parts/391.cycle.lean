/-! WHAT THE CLASS'S WALK OFFERS: cycles that go through each hand once; each is a ring -/
def fo_F (sv : pv_V) (f k x : Nat) : Prop := sv k 2 = x ∧ sv k 1 = sv f 1 ∧ sv k 4 = sv f 4
/-- offered from hand x, by sales B so far, by hands V met -/
def fo_O (sv : pv_V) (m f : Nat) : Nat → Nat → Nat → Nat → Nat → Prop
  | 0, _, _, _, _ => False
  | d + 1, x, B, V, z => bc_n B < 10 ∧ ∃ k, f < k ∧ k < m ∧ fo_F sv f k x ∧ ((sv k 3 = sv f 2 ∧ z = B ||| 2 ^ k) ∨ (sv k 3 ≠ sv f 2 ∧ V.testBit (sv k 3) = false ∧ fo_O sv m f d (sv k 3) (B ||| 2 ^ k) (V ||| 2 ^ (sv k 3)) z))
def fo_A (sv : pv_V) (m g z : Nat) : Prop := ∃ f, f < m ∧ sv f 1 = g ∧ fo_O sv m f 12 (sv f 3) (2 ^ f) (2 ^ sv f 3) z
theorem fo_off {sv : pv_V} {B k y s : Nat} (hk : k < s) (hB : B.testBit k = false) : rg_off sv (B ||| 2 ^ k) y s = rg_off sv B y s + ((if sv k 2 = y then 1 else 0) - (if sv k 3 = y then 1 else 0)) := by
  have e : fb_si (rg_f sv (B ||| 2 ^ k) y) s = fb_si (fun i => if i = k then ((if sv k 2 = y then 1 else 0) - (if sv k 3 = y then 1 else 0)) else rg_f sv B y i) s := fb_si_cong (fun i hi => by
    unfold rg_f
    rw [fb_bit_set]
    by_cases h : i = k
    · subst h
      rw [hB]
      simp
    · simp [h])
  have e2 := fb_si_upd (rg_f sv B y) ((if sv k 2 = y then 1 else 0) - (if sv k 3 = y then 1 else 0)) hk
  have e3 : rg_f sv B y k = 0 := by
    unfold rg_f
    rw [hB]
    rfl
  show fb_si (rg_f sv (B ||| 2 ^ k) y) s = fb_si (rg_f sv B y) s + _
  rw [e, e2, e3]
  omega
/-- the walk's invariant -/
def fo_I (sv : pv_V) (s m f x B V : Nat) : Prop := V.testBit x = true ∧ V.testBit (sv f 2) = false ∧ B.testBit f = true ∧ (∀ k, B.testBit k = true → f ≤ k ∧ k < m ∧ sv k 1 = sv f 1 ∧ sv k 4 = sv f 4 ∧ V.testBit (sv k 3) = true ∧ (V.testBit (sv k 2) = true ∨ sv k 2 = sv f 2)) ∧ (∀ y, rg_off sv B y s = (if sv f 2 = y then 1 else 0) - (if x = y then 1 else 0)) ∧ ∀ C : Nat → Prop, rr_C sv s B C → (C (sv f 2) → ∀ y, V.testBit y = true → C y) ∧ ∀ y, V.testBit y = true → C y → C x
theorem fo_sub {sv : pv_V} {s B k : Nat} {C : Nat → Prop} (h : rr_C sv s (B ||| 2 ^ k) C) : rr_C sv s B C := fun i hi hb => h i hi (by rw [fb_bit_set, hb]; rfl)
theorem fo_new {sv : pv_V} {s B k : Nat} {C : Nat → Prop} (hk : k < s) (h : rr_C sv s (B ||| 2 ^ k) C) : C (sv k 2) → C (sv k 3) := h k hk (by rw [fb_bit_set]; simp)
theorem fo_or {n j i : Nat} : (n ||| 2 ^ j).testBit i = true ↔ n.testBit i = true ∨ i = j := by
  rw [fb_bit_set, Bool.or_eq_true, decide_eq_true_iff]
theorem fo_orF {n j i : Nat} : (n ||| 2 ^ j).testBit i = false ↔ n.testBit i = false ∧ i ≠ j := by
  rw [fb_bit_set, Bool.or_eq_false_iff, decide_eq_false_iff_not]
theorem fo_start {c s m f : Nat} {sv cv : pv_V} (hB : pv_B c s sv cv) (hm : m ≤ s) (hf : f < m) : fo_I sv s m f (sv f 3) (2 ^ f) (2 ^ sv f 3) := by
  have hne := (hB.2.2.1 f (by omega)).2.2.2.2.1
  have e : ∀ j i : Nat, (2 ^ j).testBit i = true ↔ i = j := fun j i => by
    have := fo_or (n := 0) (j := j) (i := i)
    rw [Nat.zero_or] at this
    rw [this, Nat.zero_testBit]
    simp
  refine ⟨(e _ _).mpr rfl, ?_, (e _ _).mpr rfl, fun k hk => ?_, fun y => ?_, fun C hC => ⟨fun h y hy => ?_, fun y hy h => ?_⟩⟩
  · cases h : (2 ^ sv f 3).testBit (sv f 2) with
    | false => rfl
    | true => exact absurd ((e _ _).mp h) hne
  · have hkf := (e _ _).mp hk
    subst hkf
    exact ⟨Nat.le_refl _, hf, rfl, rfl, (e _ _).mpr rfl, Or.inr rfl⟩
  · have h := fo_off (sv := sv) (B := 0) (k := f) (y := y) (s := s) (by omega) (Nat.zero_testBit f)
    rw [Nat.zero_or] at h
    rw [h]
    have h0 : ∀ n, fb_si (rg_f sv 0 y) n = 0 := fun n => by
      induction n with
      | zero => rfl
      | succ n ih =>
        rw [fb_si_succ, ih]
        unfold rg_f
        rw [Nat.zero_testBit]
        rfl
    show fb_si (rg_f sv 0 y) s + _ = _
    rw [h0]
    omega
  · rw [(e _ _).mp hy]
    exact hC f (by omega) ((e _ _).mpr rfl) h
  · rw [(e _ _).mp hy] at h
    exact h
theorem fo_step {s m f x B V k : Nat} {sv : pv_V} (hm : m ≤ s) (h : fo_I sv s m f x B V) (h1 : f < k) (h2 : k < m) (h3 : fo_F sv f k x) (h4 : sv k 3 ≠ sv f 2) (h5 : V.testBit (sv k 3) = false) : fo_I sv s m f (sv k 3) (B ||| 2 ^ k) (V ||| 2 ^ sv k 3) := by
  obtain ⟨g1, g2, g3, g4, g5, g6⟩ := h
  obtain ⟨f1, f2, f3⟩ := h3
  have hkB : B.testBit k = false := by
    cases hb : B.testBit k with
    | false => rfl
    | true =>
      have := (g4 k hb).2.2.2.2.1
      rw [h5] at this
      cases this
  refine ⟨fo_or.mpr (Or.inr rfl), fo_orF.mpr ⟨g2, fun e => h4 e.symm⟩, fo_or.mpr (Or.inl g3), fun i hi => ?_, fun y => ?_, fun C hC => ?_⟩
  · rcases fo_or.mp hi with hb | rfl
    · obtain ⟨a1, a2, a3, a4, a5, a6⟩ := g4 i hb
      exact ⟨a1, a2, a3, a4, fo_or.mpr (Or.inl a5), a6.imp (fun z => fo_or.mpr (Or.inl z)) id⟩
    · exact ⟨by omega, h2, f2, f3, fo_or.mpr (Or.inr rfl), Or.inl (fo_or.mpr (Or.inl (by rw [f1]; exact g1)))⟩
  · rw [fo_off (by omega) hkB, g5 y, f1]
    omega
  · have q := g6 C (fo_sub hC)
    have qk := fo_new (by omega) hC
    rw [f1] at qk
    refine ⟨fun hs y hy => ?_, fun y hy hc => ?_⟩
    · rcases fo_or.mp hy with hv | rfl
      · exact q.1 hs y hv
      · exact qk (q.1 hs x g1)
    · rcases fo_or.mp hy with hv | rfl
      · exact qk (q.2 y hv hc)
      · exact hc
theorem fo_close {c s m f x B V k : Nat} {sv cv : pv_V} (hB : pv_B c s sv cv) (hm : m ≤ s) (h : fo_I sv s m f x B V) (h1 : f < k) (h2 : k < m) (h3 : fo_F sv f k x) (h4 : sv k 3 = sv f 2) : rg_ring sv s (B ||| 2 ^ k) ∧ (B ||| 2 ^ k).testBit f = true ∧ ∀ i, (B ||| 2 ^ k).testBit i = true → i < m ∧ sv i 1 = sv f 1 := by
  obtain ⟨g1, g2, g3, g4, g5, g6⟩ := h
  obtain ⟨f1, f2, f3⟩ := h3
  have hkB : B.testBit k = false := by
    cases hb : B.testBit k with
    | false => rfl
    | true =>
      have := (g4 k hb).2.2.2.2.1
      rw [h4, g2] at this
      cases this
  have hall : ∀ i, (B ||| 2 ^ k).testBit i = true → i < m ∧ sv i 1 = sv f 1 ∧ sv i 4 = sv f 4 ∧ (V.testBit (sv i 3) = true ∨ sv i 3 = sv f 2) ∧ (V.testBit (sv i 2) = true ∨ sv i 2 = sv f 2) := fun i hi => by
    rcases fo_or.mp hi with hb | rfl
    · obtain ⟨a1, a2, a3, a4, a5, a6⟩ := g4 i hb
      exact ⟨a2, a3, a4, Or.inl a5, a6⟩
    · exact ⟨h2, f2, f3, Or.inr h4, Or.inl (by rw [f1]; exact g1)⟩
  refine ⟨⟨fun i j hi hj bi bj => ?_, fun y hy => ?_, fun p hp => ⟨hp, fun i hi bi hs => ?_, fun C hC hc y hy => ?_⟩⟩, fo_or.mpr (Or.inl g3), fun i hi => ⟨(hall i hi).1, (hall i hi).2.1⟩⟩
  · rw [(hall i bi).2.2.1, (hall j bj).2.2.1]
  · rw [fo_off (by omega) hkB, g5 y, f1, h4]
    omega
  · exact (rg_inT s).mpr ⟨i, hi, bi, Or.inr rfl⟩
  · have q := g6 C (fo_sub hC)
    have qk := fo_new (by omega) hC
    rw [f1, h4] at qk
    have hin : ∀ w, (rg_in sv (B ||| 2 ^ k) s).testBit w = true → V.testBit w = true ∨ w = sv f 2 := fun w hw => by
      obtain ⟨i, hi, bi, hw2⟩ := (rg_inT s).mp hw
      obtain ⟨-, -, -, a4, a5⟩ := hall i bi
      rcases hw2 with rfl | rfl
      · exact a5
      · exact a4
    have hsf : C (sv f 2) := by
      rcases hin p hp with hv | rfl
      · exact qk (q.2 p hv hc)
      · exact hc
    rcases hin y hy with hv | rfl
    · exact q.1 hsf y hv
    · exact hsf
theorem fo_ring {c s m f : Nat} {sv cv : pv_V} (hB : pv_B c s sv cv) (hm : m ≤ s) : ∀ (d x B V z : Nat), fo_I sv s m f x B V → fo_O sv m f d x B V z → rg_ring sv s z ∧ z.testBit f = true ∧ ∀ i, z.testBit i = true → i < m ∧ sv i 1 = sv f 1
  | 0, x, B, V, z, h, ho => ho.elim
  | d + 1, x, B, V, z, h, ho => by
    obtain ⟨-, k, h1, h2, h3, h4⟩ := ho
    rcases h4 with ⟨h4, rfl⟩ | ⟨h4, h5, h6⟩
    · exact fo_close hB hm h h1 h2 h3 h4
    · exact fo_ring hB hm d _ _ _ z (fo_step hm h h1 h2 h3 h4 h5) h6
theorem fo_all {c s m g z : Nat} {sv cv : pv_V} (hB : pv_B c s sv cv) (hm : m ≤ s) (h : fo_A sv m g z) : rg_ring sv s z ∧ z ≠ 0 ∧ ∀ i, z.testBit i = true → i < m ∧ sv i 1 = g := by
  obtain ⟨f, h1, rfl, h3⟩ := h
  obtain ⟨a1, a2, a3⟩ := fo_ring hB hm 12 _ _ _ z (fo_start hB hm h1) h3
  refine ⟨a1, fun e => ?_, a3⟩
  rw [e, Nat.zero_testBit] at a2
  cases a2
