/-! the sales of a set are all of one cargo: both sides' ask -/
def rg_one (sv : pv_V) (s b : Nat) : Prop := ∀ i j, i < s → j < s → b.testBit i = true → b.testBit j = true → sv i 1 = sv j 1
theorem rb_lt31 {s b : Nat} (hs : s ≤ 24) (hb : b < 2 ^ s) : b < 2 ^ 31 := Nat.lt_of_lt_of_le hb (Nat.pow_le_pow_right (by decide) (by omega))
theorem rg_c {n c s : Nat} {oc os : Nat → Nat} {sv cv : pv_V} {S : rk_Sh} {I : rk_I} {R : rk_R} (hB : pv_B c s sv cv) (hX : pv_X n c s oc os sv cv S I R) {b : Nat} (h0 : 0 < b) (hb : b < 2 ^ s) : (rg_one sv s b ∧ f_X9_areOfOneCargo S I R (nI b) = some 1) ∨ (¬ rg_one sv s b ∧ f_X9_areOfOneCargo S I R (nI b) = some 0) := by
  obtain ⟨hO, x1, x2, x3, x4⟩ := hX
  have hs := hB.2.1
  have hb31 := rb_lt31 hs hb
  obtain ⟨z, e1, hz⟩ := pr_for0 (f := fun a9 : Option Nat × Int32 => f_X9_areOfOneCargo_l19 S I R (nI b) a9.1 a9.2) (fun k a => a.2 = nI k ∧ ((a.1 = none ∧ ∀ i, i < k → b.testBit i = false) ∨ ∃ g, g < c ∧ a.1 = some (oc g) ∧ (∃ i, i < k ∧ b.testBit i = true ∧ sv i 1 = g) ∧ ∀ i, i < k → b.testBit i = true → sv i 1 = g)) s (fun a => (rg_one sv s b ∧ ∃ y, a = .inl y) ∨ (¬ rg_one sv s b ∧ a = .inr 0)) (none, 0) ⟨rfl, Or.inl ⟨rfl, fun i hi => absurd hi (Nat.not_lt_zero i)⟩⟩ (by
      rintro k ⟨x, y⟩ hk ⟨hy, hx⟩
      have hy : y = nI k := hy
      subst hy
      have c0 : ¬ nI s ≤ nI k := nI_ge hk (by omega)
      obtain ⟨r0, r1, r2, -⟩ := x3 k hk
      have hcg := (hB.2.2.1 k hk).2.1
      have hd := (x4 (sv k 1) hcg).2.1
      cases hbk : b.testBit k with
      | false =>
        left
        refine ⟨(x, nI (k + 1)), ?_, rfl, ?_⟩
        · show f_X9_areOfOneCargo_l19 S I R (nI b) x (nI k) = _
          unfold f_X9_areOfOneCargo_l19
          rw [x2, if_neg c0, rb_us hb31 (by omega), if_pos ((rb_t hb31).mpr hbk), nI_1]
        · rcases hx with ⟨hx, h1⟩ | ⟨g, g1, hx, ⟨i, i1, i2⟩, h2⟩
          · refine Or.inl ⟨hx, fun i hi => ?_⟩
            by_cases hik : i = k
            · rw [hik]; exact hbk
            · exact h1 i (by omega)
          · refine Or.inr ⟨g, g1, hx, ⟨i, by omega, i2⟩, fun i hi hbi => ?_⟩
            by_cases hik : i = k
            · rw [hik, hbk] at hbi; cases hbi
            · exact h2 i (by omega) hbi
      | true =>
        have hnb : ¬ (nI (b / 2 ^ k) &&& 1 = 0) := fun w => by rw [(rb_t hb31).mp w] at hbk; cases hbk
        rcases hx with ⟨hx, h1⟩ | ⟨g, g1, hx, ⟨i, i1, i2⟩, h2⟩
        · left
          have hx : x = none := hx
          subst hx
          refine ⟨(some (oc (sv k 1)), nI (k + 1)), ?_, rfl, Or.inr ⟨sv k 1, hcg, rfl, ⟨k, by omega, hbk, rfl⟩, fun i hi hbi => ?_⟩⟩
          · show f_X9_areOfOneCargo_l19 S I R (nI b) none (nI k) = _
            unfold f_X9_areOfOneCargo_l19
            rw [x2, if_neg c0, rb_us hb31 (by omega), if_neg hnb, pr_oc0, pr_rdR (by omega) (by omega), r0, pr_sb, pr_dr r1, pr_sb, pr_sb, r2, nI_1]
          · by_cases hik : i = k
            · rw [hik]
            · rw [h1 i (by omega)] at hbi; cases hbi
        · have hx : x = some (oc g) := hx
          subst hx
          have hdg := (x4 g g1).2.1
          by_cases hkg : sv k 1 = g
          · left
            refine ⟨(some (oc g), nI (k + 1)), ?_, rfl, Or.inr ⟨g, g1, rfl, ⟨i, by omega, i2⟩, fun i hi hbi => ?_⟩⟩
            · show f_X9_areOfOneCargo_l19 S I R (nI b) (some (oc g)) (nI k) = _
              unfold f_X9_areOfOneCargo_l19
              rw [x2, if_neg c0, rb_us hb31 (by omega), if_neg hnb, pr_oc1, pr_rdR (by omega) (by omega), r0, pr_sb, pr_dr r1, pr_sb, pr_sb, r2, pr_dr hd, pr_sb, pr_ck hdg, pr_sb, if_pos (by rw [hkg]), pr_sb, hkg, nI_1]
            · by_cases hik : i = k
              · rw [hik]; exact hkg
              · exact h2 i (by omega) hbi
          · right
            have hne : ¬ oc (sv k 1) = oc g := fun e => hkg (hO.2.2.1 _ _ hcg g1 e)
            refine ⟨.inr 0, ?_, Or.inr ⟨fun h => hkg ?_, rfl⟩⟩
            · show f_X9_areOfOneCargo_l19 S I R (nI b) (some (oc g)) (nI k) = _
              unfold f_X9_areOfOneCargo_l19
              rw [x2, if_neg c0, rb_us hb31 (by omega), if_neg hnb, pr_oc1, pr_rdR (by omega) (by omega), r0, pr_sb, pr_dr r1, pr_sb, pr_sb, r2, pr_dr hd, pr_sb, pr_ck hdg, pr_sb, if_neg hne]
            · rw [← i2.2]
              exact h k i hk (by omega) hbk i2.1) (by
      rintro ⟨x, y⟩ ⟨hy, hx⟩
      have hy : y = nI s := hy
      subst hy
      refine ⟨.inl (x, nI s), ?_, Or.inl ⟨fun i j hi hj hbi hbj => ?_, _, rfl⟩⟩
      · show f_X9_areOfOneCargo_l19 S I R (nI b) x (nI s) = _
        unfold f_X9_areOfOneCargo_l19
        rw [x2, if_pos (nI_le (Nat.le_refl _) (by omega))]
      · rcases hx with ⟨-, h1⟩ | ⟨g, g1, -, -, h2⟩
        · rw [h1 i hi] at hbi; cases hbi
        · rw [h2 i hi hbi, h2 j hj hbj])
  have hne : ¬ nI b = 0 := nI_ne0 h0 (by omega)
  have hus : rk_us (nI b) (nI s) = 0 := by
    rw [rb_us hb31 (by omega), Nat.div_eq_of_lt hb]
    rfl
  unfold f_X9_areOfOneCargo
  rw [if_neg hne, x2, if_pos hus, e1]
  rcases hz with ⟨h1, ⟨y1, y2⟩, rfl⟩ | ⟨h1, rfl⟩
  · exact Or.inl ⟨h1, rfl⟩
  · exact Or.inr ⟨h1, rfl⟩
theorem rg_hi {s : Nat} (hs : s ≤ 24) : (((1 : Int32) <<< (nI s &&& 31)) - 1).toInt64.toInt = (2 : Int) ^ s - 1 := by
  have hpi : ((2 ^ s : Nat) : Int) = (2 : Int) ^ s := by norm_cast
  have := rb_pow (k := s) (by omega)
  rw [rb_1 (by omega), Int32.toInt_toInt64, pr_toM (by omega), hpi]
theorem rg_m {c s : Nat} {sv cv : pv_V} {I : rk_I} (hB : pv_B c s sv cv) (hY : pv_Y c s sv cv I) {b : Nat} (h0 : 0 < b) (hb : b < 2 ^ s) : (rg_one sv s b ∧ f_X10_areSales I (nI b) = some 1) ∨ (¬ rg_one sv s b ∧ f_X10_areSales I (nI b) = some 0) := by
  obtain ⟨y1, y2, y3, y4⟩ := hY
  have hs := hB.2.1
  have hc := hB.1
  have hb31 := rb_lt31 hs hb
  have hpi : ((2 ^ s : Nat) : Int) = (2 : Int) ^ s := by norm_cast
  obtain ⟨z, e1, hz⟩ := pr_for0 (f := fun a9 : Int32 × Int32 => f_X10_areSales_l24 I (nI b) a9.1 a9.2) (fun k a => a.2 = nI k ∧ ((a.1 = -1 ∧ ∀ i, i < k → b.testBit i = false) ∨ ∃ g, g < c ∧ a.1 = nI g ∧ (∃ i, i < k ∧ b.testBit i = true ∧ sv i 1 = g) ∧ ∀ i, i < k → b.testBit i = true → sv i 1 = g)) s (fun a => (rg_one sv s b ∧ ∃ y, a = .inl y) ∨ (¬ rg_one sv s b ∧ a = .inr 0)) (-1, 0) ⟨rfl, Or.inl ⟨rfl, fun i hi => absurd hi (Nat.not_lt_zero i)⟩⟩ (by
      rintro k ⟨x, y⟩ hk ⟨hy, hx⟩
      have hy : y = nI k := hy
      subst hy
      have c0 : ¬ nI s ≤ nI k := nI_ge hk (by omega)
      have r1 := (y3 k hk).2.1
      have hcg := (hB.2.2.1 k hk).2.1
      cases hbk : b.testBit k with
      | false =>
        left
        refine ⟨(x, nI (k + 1)), ?_, rfl, ?_⟩
        · show f_X10_areSales_l24 I (nI b) x (nI k) = _
          unfold f_X10_areSales_l24
          rw [y2, if_neg c0, rb_sh hb31 (by omega), if_pos ((rb_t hb31).mpr hbk), nI_1]
        · rcases hx with ⟨hx, h1⟩ | ⟨g, g1, hx, ⟨i, i1, i2⟩, h2⟩
          · refine Or.inl ⟨hx, fun i hi => ?_⟩
            by_cases hik : i = k
            · rw [hik]; exact hbk
            · exact h1 i (by omega)
          · refine Or.inr ⟨g, g1, hx, ⟨i, by omega, i2⟩, fun i hi hbi => ?_⟩
            by_cases hik : i = k
            · rw [hik, hbk] at hbi; cases hbi
            · exact h2 i (by omega) hbi
      | true =>
        have hnb : ¬ (nI (b / 2 ^ k) &&& 1 = 0) := fun w => by rw [(rb_t hb31).mp w] at hbk; cases hbk
        rcases hx with ⟨hx, h1⟩ | ⟨g, g1, hx, ⟨i, i1, i2⟩, h2⟩
        · left
          have hx : x = -1 := hx
          subst hx
          refine ⟨(nI (sv k 1), nI (k + 1)), ?_, rfl, Or.inr ⟨sv k 1, hcg, rfl, ⟨k, by omega, hbk, rfl⟩, fun i hi hbi => ?_⟩⟩
          · show f_X10_areSales_l24 I (nI b) (-1) (nI k) = _
            unfold f_X10_areSales_l24
            rw [y2, if_neg c0, rb_sh hb31 (by omega), if_neg hnb, if_pos rfl, pr_rd (by omega) (by omega), r1, pr_sb, nI_1]
          · by_cases hik : i = k
            · rw [hik]
            · rw [h1 i (by omega)] at hbi; cases hbi
        · have hx : x = nI g := hx
          subst hx
          by_cases hkg : sv k 1 = g
          · left
            refine ⟨(nI g, nI (k + 1)), ?_, rfl, Or.inr ⟨g, g1, rfl, ⟨i, by omega, i2⟩, fun i hi hbi => ?_⟩⟩
            · show f_X10_areSales_l24 I (nI b) (nI g) (nI k) = _
              unfold f_X10_areSales_l24
              rw [y2, if_neg c0, rb_sh hb31 (by omega), if_neg hnb, if_neg (pr_n1 (by omega)), pr_rd (by omega) (by omega), r1, pr_sb, if_pos (by rw [hkg]), pr_sb, hkg, nI_1]
            · by_cases hik : i = k
              · rw [hik]; exact hkg
              · exact h2 i (by omega) hbi
          · right
            refine ⟨.inr 0, ?_, Or.inr ⟨fun h => hkg ?_, rfl⟩⟩
            · show f_X10_areSales_l24 I (nI b) (nI g) (nI k) = _
              unfold f_X10_areSales_l24
              rw [y2, if_neg c0, rb_sh hb31 (by omega), if_neg hnb, if_neg (pr_n1 (by omega)), pr_rd (by omega) (by omega), r1, pr_sb, if_neg (fun e => hkg ((nI_eq (by omega) (by omega)).mp e))]
            · rw [← i2.2]
              exact h k i hk (by omega) hbk i2.1) (by
      rintro ⟨x, y⟩ ⟨hy, hx⟩
      have hy : y = nI s := hy
      subst hy
      refine ⟨.inl (x, nI s), ?_, Or.inl ⟨fun i j hi hj hbi hbj => ?_, _, rfl⟩⟩
      · show f_X10_areSales_l24 I (nI b) x (nI s) = _
        unfold f_X10_areSales_l24
        rw [y2, if_pos (nI_le (Nat.le_refl _) (by omega))]
      · rcases hx with ⟨-, h1⟩ | ⟨g, g1, -, -, h2⟩
        · rw [h1 i hi] at hbi; cases hbi
        · rw [h2 i hi hbi, h2 j hj hbj])
  have l1 : (1 : Int64).toInt = 1 := by decide
  unfold f_X10_areSales
  rw [y2, pr_inI l1 (rg_hi hs), if_pos (by rw [nI_toInt hb31, ← hpi]; omega), pr_sb, if_neg (by decide), e1]
  rcases hz with ⟨h1, ⟨y1, y2⟩, rfl⟩ | ⟨h1, rfl⟩
  · exact Or.inl ⟨h1, rfl⟩
  · exact Or.inr ⟨h1, rfl⟩
/-- both sides -/
theorem rg_both {n c s : Nat} {oc os : Nat → Nat} {sv cv : pv_V} {S : rk_Sh} {I : rk_I} {R : rk_R} (hB : pv_B c s sv cv) (hX : pv_X n c s oc os sv cv S I R) (hY : pv_Y c s sv cv I) (a : Int32) : (∃ b, 0 < b ∧ b < 2 ^ s ∧ a = nI b ∧ rg_one sv s b ∧ f_X9_areOfOneCargo S I R a = some 1 ∧ ∀ I', kI I I' → f_X10_areSales I' a = some 1) ∨ (f_X9_areOfOneCargo S I R a = some 0 ∧ ∀ I', kI I I' → f_X10_areSales I' a = some 0) := by
  have hs := hB.2.1
  rcases rb_in hs a with ⟨b, b0, b1, rfl⟩ | ⟨h1, h2⟩
  · rcases rg_c hB hX b0 b1 with ⟨q1, q2⟩ | ⟨q1, q2⟩
    · refine Or.inl ⟨b, b0, b1, rfl, q1, q2, fun I' hI => ?_⟩
      rcases rg_m hB (kY hY hI) b0 b1 with ⟨-, r⟩ | ⟨r, -⟩
      · exact r
      · exact absurd q1 r
    · refine Or.inr ⟨q2, fun I' hI => ?_⟩
      rcases rg_m hB (kY hY hI) b0 b1 with ⟨r, -⟩ | ⟨-, r⟩
      · exact absurd r q1
      · exact r
  · right
    constructor
    · unfold f_X9_areOfOneCargo
      by_cases h0 : a = 0
      · rw [if_pos h0]
      · rw [if_neg h0, hX.2.2.1, if_neg]
        rcases h1 with h1 | h1
        · exact absurd h1 h0
        · exact h1
    · intro I' hI
      have l1 : (1 : Int64).toInt = 1 := by decide
      unfold f_X10_areSales
      rw [(kY hY hI).2.1, pr_inI l1 (rg_hi hs), if_neg h2]
      rfl
