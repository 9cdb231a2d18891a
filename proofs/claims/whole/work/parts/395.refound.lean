/-! THE REFERENCE'S LEAST -/
def al_b (sv : pv_V) (g : Nat) : Nat → Nat
  | 0 => 0
  | k + 1 => if sv k 1 = g then al_b sv g k ||| 2 ^ k else al_b sv g k
theorem al_T {sv : pv_V} {g i : Nat} : ∀ k, (al_b sv g k).testBit i = true ↔ i < k ∧ sv i 1 = g
  | 0 => by
    show (0 : Nat).testBit i = true ↔ _
    rw [Nat.zero_testBit]
    constructor
    · intro h; cases h
    · intro h; omega
  | k + 1 => by
    show (if sv k 1 = g then al_b sv g k ||| 2 ^ k else al_b sv g k).testBit i = true ↔ _
    by_cases h : sv k 1 = g
    · rw [if_pos h, fo_or, al_T k]
      constructor
      · rintro (⟨a, b⟩ | rfl)
        · exact ⟨by omega, b⟩
        · exact ⟨by omega, h⟩
      · rintro ⟨a, b⟩
        by_cases e : i = k
        · exact Or.inr e
        · exact Or.inl ⟨by omega, b⟩
    · rw [if_neg h, al_T k]
      constructor
      · rintro ⟨a, b⟩
        exact ⟨by omega, b⟩
      · rintro ⟨a, b⟩
        have : i ≠ k := fun e => h (by rw [← e]; exact b)
        exact ⟨by omega, b⟩
theorem al_lt {sv : pv_V} {g : Nat} : ∀ k, al_b sv g k < 2 ^ k
  | 0 => Nat.one_pos
  | k + 1 => by
    have h1 := al_lt (sv := sv) (g := g) k
    have h2 : (2 : Nat) ^ k < 2 ^ (k + 1) := Nat.pow_lt_pow_right (by decide) (by omega)
    show (if sv k 1 = g then al_b sv g k ||| 2 ^ k else al_b sv g k) < _
    split
    · exact Nat.or_lt_two_pow (by omega) h2
    · omega
theorem al_and {z A : Nat} (hz : z < 2 ^ 31) (hA : A < 2 ^ 31) : (nI z &&& (nI A ^^^ (-1))) = 0 ↔ ∀ k, z.testBit k = true → A.testBit k = true := by
  have h1 : ∀ i, i < 32 → ((nI z &&& (nI A ^^^ (-1)))).toBitVec.getLsbD i = (z.testBit i && !A.testBit i) := fun i hi => by
    rw [Int32.toBitVec_and, Int32.toBitVec_xor, BitVec.getLsbD_and, BitVec.getLsbD_xor]
    have e1 : ((-1 : Int32)).toBitVec = BitVec.allOnes 32 := by decide
    rw [e1, BitVec.getLsbD_allOnes]
    show ((BitVec.ofNat 32 z).getLsbD i && ((BitVec.ofNat 32 A).getLsbD i ^^ decide (i < 32))) = _
    rw [BitVec.getLsbD_ofNat, BitVec.getLsbD_ofNat]
    simp [hi]
  constructor
  · intro h k hk
    have hk32 : k < 32 := by
      rcases Nat.lt_or_ge k 32 with g | g
      · exact g
      · rw [Nat.testBit_lt_two_pow (Nat.lt_of_lt_of_le hz (Nat.pow_le_pow_right (by decide) (by omega)))] at hk
        cases hk
    have h2 := h1 k hk32
    rw [h, hk] at h2
    cases ha : A.testBit k with
    | true => rfl
    | false =>
      rw [ha] at h2
      simp at h2
  · intro h
    apply Int32.toBitVec_inj.mp
    apply BitVec.eq_of_getLsbD_eq
    intro i hi
    rw [h1 i hi]
    cases hz2 : z.testBit i with
    | false => simp
    | true => rw [h i hz2]; simp
section RF
variable {c s : Nat} {sv cv : pv_V} {I : rk_I}
theorem rf_all (hB : pv_B c s sv cv) (hY : pv_Y c s sv cv I) {g : Nat} (hg : g < c) : rk_while (fun a9 : Int32 × Int32 => f_X10_found_l15 I (nI g) a9.1 a9.2) (0, 0) = some (nI (al_b sv g (wl_m s)), nI (wl_m s)) := by
  have hs := hB.2.1
  have hc := hB.1
  obtain ⟨m1, m2, m3⟩ := wl_mm (s := s)
  refine pr_run (f := fun a9 : Int32 × Int32 => f_X10_found_l15 I (nI g) a9.1 a9.2) (fun k => (nI (al_b sv g k), nI k)) (wl_m s) ?_ ?_
  · intro k hk
    show f_X10_found_l15 I (nI g) (nI (al_b sv g k)) (nI k) = _
    obtain ⟨-, y1, -⟩ := hY.2.2.1 k (by omega)
    have bk := hB.2.2.1 k (by omega)
    have e : al_b sv g (k + 1) = if sv k 1 = g then al_b sv g k ||| 2 ^ k else al_b sv g k := rfl
    unfold f_X10_found_l15
    rw [hY.2.1, if_neg (nI_ge (by omega) (by omega)), if_neg (show ¬ (12 : Int32) ≤ nI k from nI_ge (b := 12) (by omega) (by omega)), pr_rd (by omega) (by omega), pr_sb, y1, e, nI_1]
    by_cases h : sv k 1 = g
    · rw [if_pos (by rw [h]), if_pos h, rb_1 (by omega), fa_or]
    · rw [if_neg (fun z => h ((nI_eq (by omega) (by omega)).mp z)), if_neg h, rb_or0]
  · show f_X10_found_l15 I (nI g) (nI (al_b sv g (wl_m s))) (nI (wl_m s)) = _
    unfold f_X10_found_l15
    rw [hY.2.1]
    by_cases h : nI s ≤ nI (wl_m s)
    · rw [if_pos h]
    · rw [if_neg h, if_pos]
      have : wl_m s = 12 := by
        rcases m3 with e | e
        · rw [e] at h
          exact absurd (nI_le (Nat.le_refl _) (by omega)) h
        · exact e
      rw [this]
      decide
def rf_Q (sv : pv_V) (s A i z : Nat) : Prop := 1 ≤ z ∧ z < i ∧ (∀ k, z.testBit k = true → A.testBit k = true) ∧ rg_ring sv s z
theorem rf_s {A i z : Nat} (hi : 1 ≤ i) : rf_Q sv s A (i + 1) z ↔ rf_Q sv s A i z ∨ (z = i ∧ (∀ k, i.testBit k = true → A.testBit k = true) ∧ rg_ring sv s i) := by
  constructor
  · rintro ⟨h1, h2, h3, h4⟩
    by_cases e : z = i
    · subst e
      exact Or.inr ⟨rfl, h3, h4⟩
    · exact Or.inl ⟨h1, by omega, h3, h4⟩
  · rintro (⟨h1, h2, h3, h4⟩ | ⟨rfl, h3, h4⟩)
    · exact ⟨h1, by omega, h3, h4⟩
    · exact ⟨hi, by omega, h3, h4⟩
theorem rf_step (hB : pv_B c s sv cv) (hY : pv_Y c s sv cv I) {A i : Nat} (hA : A < 4096) (hi : 1 ≤ i) (hiA : i ≤ A) {v : Int32} (hb : bs_B (rf_Q sv s A i) v) : ∃ v', f_X10_found_l60 I (nI A) v (nI i) = some (.inl (v', nI (i + 1))) ∧ bs_B (rf_Q sv s A (i + 1)) v' := by
  have keep : ¬ ((∀ k, i.testBit k = true → A.testBit k = true) ∧ rg_ring sv s i) → bs_B (rf_Q sv s A (i + 1)) v := fun h => bs_cong (fun z => by
    rw [rf_s hi]
    exact ⟨fun h => Or.inl h, fun w => w.elim id (fun w => absurd w.2 h)⟩) hb
  unfold f_X10_found_l60
  rw [if_neg (show ¬ nI A < nI i from nI_nlt hiA (by omega)), nI_1]
  by_cases hs : ∀ k, i.testBit k = true → A.testBit k = true
  · rw [if_pos ((al_and (by omega) (by omega)).mpr hs)]
    have hr := rm_ring hB hY (b := i) (by omega)
    rcases hb with ⟨h1, h2⟩ | ⟨w, h1, h2, h3, h4⟩
    · rw [if_pos h1]
      rcases hr with ⟨r1, r2⟩ | ⟨r1, r2⟩
      · rw [r2, pr_sb, if_neg (by decide)]
        refine ⟨_, rfl, Or.inr ⟨i, by omega, rfl, (rf_s hi).mpr (Or.inr ⟨rfl, hs, r1⟩), fun y hy => ?_⟩⟩
        rcases (rf_s hi).mp hy with g | g
        · exact absurd g (h2 y)
        · rw [g.1]; exact Or.inr ⟨rfl, Nat.le_refl _⟩
      · rw [r2, pr_sb, if_pos rfl]
        exact ⟨_, rfl, keep (fun z => r1 z.2)⟩
    · have b1 := bc_12 w
      have b2 := bc_12 i
      rw [if_neg (by rw [h2]; exact pr_n1 (by omega)), bc_m (by omega), pr_sb, h2, bc_m h1, pr_sb]
      have hwi := h3.2.1
      by_cases hc : bc_n w ≤ bc_n i
      · rw [if_pos (nI_le hc (by omega))]
        refine ⟨_, rfl, Or.inr ⟨w, h1, rfl, (rf_s hi).mpr (Or.inl h3), fun y hy => ?_⟩⟩
        rcases (rf_s hi).mp hy with g | g
        · exact h4 y g
        · rw [g.1]; omega
      · rw [if_neg (nI_ge (by omega) (by omega))]
        rcases hr with ⟨r1, r2⟩ | ⟨r1, r2⟩
        · rw [r2, pr_sb, if_neg (by decide)]
          refine ⟨_, rfl, Or.inr ⟨i, by omega, rfl, (rf_s hi).mpr (Or.inr ⟨rfl, hs, r1⟩), fun y hy => ?_⟩⟩
          rcases (rf_s hi).mp hy with g | g
          · have := h4 y g; omega
          · rw [g.1]; exact Or.inr ⟨rfl, Nat.le_refl _⟩
        · rw [r2, pr_sb, if_pos rfl]
          have k := keep (fun z => r1 z.2)
          rw [h2] at k
          exact ⟨_, rfl, k⟩
  · rw [if_neg (fun z => hs ((al_and (by omega) (by omega)).mp z))]
    exact ⟨_, rfl, keep (fun z => hs z.1)⟩
theorem rf_loop (hB : pv_B c s sv cv) (hY : pv_Y c s sv cv I) {A : Nat} (hA : A < 4096) : ∃ v, f_X10_found_j55 I (nI A) = some v ∧ bs_B (rf_Q sv s A (A + 1)) v := by
  have hw := pr_for (f := fun a9 : Int32 × Int32 => f_X10_found_l60 I (nI A) a9.1 a9.2) (fun i a => 1 ≤ i ∧ ∃ v, a = (v, nI i) ∧ bs_B (rf_Q sv s A i) v) (A + 1) (fun b => ∃ v, b = (v, nI (A + 1)) ∧ bs_B (rf_Q sv s A (A + 1)) v) (fun i a hi hP => by
    obtain ⟨h1, v, rfl, hb⟩ := hP
    obtain ⟨v', e, hb'⟩ := rf_step hB hY hA h1 (by omega) hb
    exact Or.inl ⟨(v', nI (i + 1)), e, by omega, v', rfl, hb'⟩) (fun a hP => by
    obtain ⟨h1, v, rfl, hb⟩ := hP
    refine ⟨(v, nI (A + 1)), ?_, v, rfl, hb⟩
    show f_X10_found_l60 I (nI A) v (nI (A + 1)) = _
    unfold f_X10_found_l60
    rw [if_pos (nI_lt (by omega) (by omega))]) A 1 (-1, nI 1) (by omega) ⟨Nat.le_refl _, -1, rfl, Or.inl ⟨rfl, fun z hz => by have h1 := hz.1; have h2 := hz.2.1; omega⟩⟩
  obtain ⟨b, e, v, rfl, hb⟩ := hw
  refine ⟨v, ?_, hb⟩
  unfold f_X10_found_j55
  rw [show ((-1 : Int32), (1 : Int32)) = (-1, nI 1) from rfl, e, cq_b2]
end RF
theorem ck_found {n : Nat} {S : rk_Sh} {I : rk_I} {R : rk_R} (h : iv n S I R) (a : Int32) : ∃ v I1 R1, f_X9_found S I R a = some (v, I1, R1) ∧ f_X10_found I1 a = some v ∧ iv n S I1 R1 := by
  have h' := h
  obtain ⟨c, s, t, r, oc, os, ot, sv, cv, h1, h2, h3, h4, h5, h6, h7, h8, h9, h10, h11⟩ := h
  obtain ⟨m1, m2, m3⟩ := wl_mm (s := s)
  rcases pg_cargo' h5 h6 h7 a with ⟨g, g1, rfl, g3, g4⟩ | ⟨g3, g4⟩
  · obtain ⟨v, I', R', e, hb, kI', kR'⟩ := wl_least h5 h6 g1
    have hY' := kY h7 kI'
    have hA : al_b sv g (wl_m s) < 4096 := Nat.lt_of_lt_of_le (al_lt _) (Nat.pow_le_pow_right (n := 2) (j := 12) (by decide) m2)
    obtain ⟨w, e2, hb2⟩ := rf_loop h5 hY' hA
    have hvw : v = w := bs_one hb hb2 (fun z hz => by
      obtain ⟨a1, a2, a3⟩ := fo_all h5 m1 hz
      have hsub : ∀ k, z.testBit k = true → (al_b sv g (wl_m s)).testBit k = true := fun k hk => (al_T _).mpr (a3 k hk)
      have := (bc_sub hsub).2
      exact ⟨by omega, by omega, hsub, a1⟩) (fun y hy => by
      obtain ⟨y1, y2, y3, y4⟩ := hy
      obtain ⟨z, z1, z2⟩ := fy_main h5 m1 (g := g) (fun i hi => (al_T _).mp (y3 i hi)) (by omega) y4
      have := bc_sub z2
      exact ⟨z, z1, by omega⟩)
    refine ⟨v, I', R', ?_, ?_, iv_k h' kI' kR'⟩
    · unfold f_X9_found
      rw [g3, pr_sb, pr_oc1, h6.2.2.1, e, cq_b3, pr_ck (h6.2.2.2.2 g g1).2.1, pr_sb]
    · unfold f_X10_found
      rw [g4 I' kI', pr_sb, if_neg (by decide), rf_all h5 hY' g1, cq_b2, e2, hvw]
  · refine ⟨-2, I, R, ?_, ?_, h'⟩
    · unfold f_X9_found
      rw [g3]
      rfl
    · unfold f_X10_found
      rw [g4 I (kI_r _)]
      rfl
