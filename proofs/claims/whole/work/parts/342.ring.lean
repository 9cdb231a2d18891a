/-! the parts of a ring: amounts, balance, hands -/
def rg_am (sv : pv_V) (s b : Nat) : Prop := ∀ i j, i < s → j < s → b.testBit i = true → b.testBit j = true → sv i 4 = sv j 4
def rg_f (sv : pv_V) (b x k : Nat) : Int := if b.testBit k then (if sv k 2 = x then 1 else 0) - (if sv k 3 = x then 1 else 0) else 0
def rg_in (sv : pv_V) (b : Nat) : Nat → Nat
  | 0 => 0
  | k + 1 => if b.testBit k then rg_in sv b k ||| (2 ^ sv k 2 ||| 2 ^ sv k 3) else rg_in sv b k
theorem rg_in10 {c s : Nat} {sv cv : pv_V} (hB : pv_B c s sv cv) {b : Nat} : ∀ k, k ≤ s → rg_in sv b k < 2 ^ 10 := by
  intro k
  induction k with
  | zero => intro _; exact Nat.two_pow_pos 10
  | succ k ih =>
    intro hk
    have g := hB.2.2.1 k (by omega)
    show (if b.testBit k then _ else _) < _
    split
    · exact Nat.or_lt_two_pow (ih (by omega)) (Nat.or_lt_two_pow (Nat.pow_lt_pow_right (by decide) g.2.2.1) (Nat.pow_lt_pow_right (by decide) g.2.2.2.1))
    · exact ih (by omega)
theorem rb_or3 {m x y : Nat} (hx : x < 10) (hy : y < 10) : nI m ||| ((1 <<< (nI x &&& 31)) ||| (1 <<< (nI y &&& 31))) = nI (m ||| (2 ^ x ||| 2 ^ y)) := by
  rw [rb_1 (by omega), rb_1 (by omega), fa_or, fa_or]
section RG
variable {n c s : Nat} {oc os : Nat → Nat} {sv cv : pv_V} {S : rk_Sh} {I : rk_I} {R : rk_R}
theorem rc_am (hB : pv_B c s sv cv) (hX : pv_X n c s oc os sv cv S I R) (h16 : I 16 2 = nI s) (hR : R 16 1 = some 2) {b : Nat} (hb31 : b < 2 ^ 31) : (rg_am sv s b ∧ f_X4_amountsAlike S I R (nI b) = some 1) ∨ (¬ rg_am sv s b ∧ f_X4_amountsAlike S I R (nI b) = some 0) := by
  obtain ⟨hO, x1, x2, x3, x4⟩ := hX
  have hs := hB.2.1
  have ckr : rk_ckR R 16 1 2 = some () := pr_ckR hR
  obtain ⟨z, e1, hz⟩ := pr_for0 (f := fun a9 : Int32 × Int32 => f_X4_amountsAlike_l4 S I R (nI b) a9.1 a9.2) (fun k a => a.2 = nI k ∧ ((a.1 = -1 ∧ ∀ i, i < k → b.testBit i = false) ∨ ∃ g, g < 1000 ∧ a.1 = nI g ∧ (∃ i, i < k ∧ b.testBit i = true ∧ sv i 4 = g) ∧ ∀ i, i < k → b.testBit i = true → sv i 4 = g)) s (fun a => (rg_am sv s b ∧ ∃ y, a = .inl y) ∨ (¬ rg_am sv s b ∧ a = .inr 0)) (-1, 0) ⟨rfl, Or.inl ⟨rfl, fun i hi => absurd hi (Nat.not_lt_zero i)⟩⟩ (by
      rintro k ⟨x, y⟩ hk ⟨hy, hx⟩
      have hy : y = nI k := hy
      subst hy
      have c0 : ¬ nI s ≤ nI k := nI_ge hk (by omega)
      obtain ⟨r0, r1, -, -, -, -, r4, -⟩ := x3 k hk
      have hbb := hB.2.2.1 k hk
      have hh := rb_has hb31 (by omega : k < 32)
      cases hbk : b.testBit k with
      | false =>
        rw [hbk] at hh
        have hh : f_X4_has (nI b) (nI k) = some 0 := hh
        left
        refine ⟨(x, nI (k + 1)), ?_, rfl, ?_⟩
        · show f_X4_amountsAlike_l4 S I R (nI b) x (nI k) = _
          unfold f_X4_amountsAlike_l4
          rw [h16, if_neg c0, hh, pr_sb, if_pos rfl, nI_1]
        · rcases hx with ⟨hx, h1⟩ | ⟨g, g1, hx, ⟨i, i1, i2⟩, h2⟩
          · refine Or.inl ⟨hx, fun i hi => ?_⟩
            by_cases hik : i = k
            · rw [hik]; exact hbk
            · exact h1 i (by omega)
          · refine Or.inr ⟨g, g1, hx, ⟨i, by omega, i2⟩, fun i hi hbi => ?_⟩
            by_cases hik : i = k
            · rw [hik, hbk] at hbi; cases hbi
            · exact h2 i (by omega) hbi
      | true =>
        rw [hbk] at hh
        have hh : f_X4_has (nI b) (nI k) = some 1 := hh
        rcases hx with ⟨hx, h1⟩ | ⟨g, g1, hx, ⟨i, i1, i2⟩, h2⟩
        · left
          have hx : x = -1 := hx
          subst hx
          refine ⟨(nI (sv k 4), nI (k + 1)), ?_, rfl, Or.inr ⟨sv k 4, by omega, rfl, ⟨k, by omega, hbk, rfl⟩, fun i hi hbi => ?_⟩⟩
          · show f_X4_amountsAlike_l4 S I R (nI b) (-1) (nI k) = _
            unfold f_X4_amountsAlike_l4
            rw [h16, if_neg c0, hh, pr_sb, if_neg (by decide), if_pos rfl, ckr, pr_sb, pr_rdR (by omega) (by omega), r0, pr_sb, pr_dr r1, pr_sb, r4, nI_1]
          · by_cases hik : i = k
            · rw [hik]
            · rw [h1 i (by omega)] at hbi; cases hbi
        · have hx : x = nI g := hx
          subst hx
          by_cases hkg : sv k 4 = g
          · left
            refine ⟨(nI g, nI (k + 1)), ?_, rfl, Or.inr ⟨g, g1, rfl, ⟨i, by omega, i2⟩, fun i hi hbi => ?_⟩⟩
            · show f_X4_amountsAlike_l4 S I R (nI b) (nI g) (nI k) = _
              unfold f_X4_amountsAlike_l4
              rw [h16, if_neg c0, hh, pr_sb, if_neg (by decide), if_neg (pr_n1 (by omega)), ckr, pr_sb, pr_rdR (by omega) (by omega), r0, pr_sb, pr_dr r1, pr_sb, r4, hkg, if_pos rfl, pr_sb, nI_1]
            · by_cases hik : i = k
              · rw [hik]; exact hkg
              · exact h2 i (by omega) hbi
          · right
            refine ⟨.inr 0, ?_, Or.inr ⟨fun h => hkg ?_, rfl⟩⟩
            · show f_X4_amountsAlike_l4 S I R (nI b) (nI g) (nI k) = _
              unfold f_X4_amountsAlike_l4
              rw [h16, if_neg c0, hh, pr_sb, if_neg (by decide), if_neg (pr_n1 (by omega)), ckr, pr_sb, pr_rdR (by omega) (by omega), r0, pr_sb, pr_dr r1, pr_sb, r4, if_neg (fun e => hkg ((nI_eq (by omega) (by omega)).mp e).symm)]
            · rw [← i2.2]
              exact h k i hk (by omega) hbk i2.1) (by
      rintro ⟨x, y⟩ ⟨hy, hx⟩
      have hy : y = nI s := hy
      subst hy
      refine ⟨.inl (x, nI s), ?_, Or.inl ⟨fun i j hi hj hbi hbj => ?_, _, rfl⟩⟩
      · show f_X4_amountsAlike_l4 S I R (nI b) x (nI s) = _
        unfold f_X4_amountsAlike_l4
        rw [h16, if_pos (nI_le (Nat.le_refl _) (by omega))]
      · rcases hx with ⟨-, h1⟩ | ⟨g, g1, -, -, h2⟩
        · rw [h1 i hi] at hbi; cases hbi
        · rw [h2 i hi hbi, h2 j hj hbj])
  unfold f_X4_amountsAlike
  rw [e1]
  rcases hz with ⟨h1, ⟨y1, y2⟩, rfl⟩ | ⟨h1, rfl⟩
  · exact Or.inl ⟨h1, rfl⟩
  · exact Or.inr ⟨h1, rfl⟩
theorem rc_in (hB : pv_B c s sv cv) (hX : pv_X n c s oc os sv cv S I R) (h16 : I 16 2 = nI s) (hR : R 16 1 = some 2) {b : Nat} (hb31 : b < 2 ^ 31) : f_X4_handsIn S I R (nI b) = some (nI (rg_in sv b s)) := by
  obtain ⟨hO, x1, x2, x3, x4⟩ := hX
  have hs := hB.2.1
  have ckr : rk_ckR R 16 1 2 = some () := pr_ckR hR
  unfold f_X4_handsIn
  rw [show ((0 : Int32), (0 : Int32)) = (fun k => (nI (rg_in sv b k), nI k)) 0 from rfl, pr_run (f := fun a9 : Int32 × Int32 => f_X4_handsIn_l4 S I R (nI b) a9.1 a9.2) (fun k => (nI (rg_in sv b k), nI k)) s (b := (nI (rg_in sv b s), nI s))]
  · rfl
  · intro k hk
    show f_X4_handsIn_l4 S I R (nI b) (nI (rg_in sv b k)) (nI k) = _
    obtain ⟨r0, r1, -, -, r2, r3, -⟩ := x3 k hk
    have hbb := hB.2.2.1 k hk
    have hh := rb_has hb31 (by omega : k < 32)
    unfold f_X4_handsIn_l4
    rw [h16, if_neg (nI_ge hk (by omega)), hh, pr_sb]
    cases hbk : b.testBit k with
    | false =>
      simp only [rg_in, hbk, Bool.false_eq_true, if_false]
      rw [if_pos trivial, nI_1]
    | true =>
      simp only [rg_in, hbk, if_true]
      rw [if_neg (by decide), ckr, pr_sb, pr_rdR (by omega) (by omega), r0, pr_sb, pr_dr r1, pr_sb, pr_sb, r2, r3, rb_or3 hbb.2.2.1 hbb.2.2.2.1, nI_1]
  · show f_X4_handsIn_l4 S I R (nI b) (nI (rg_in sv b s)) (nI s) = _
    unfold f_X4_handsIn_l4
    rw [h16, if_pos (nI_le (Nat.le_refl _) (by omega))]
theorem rm_in (hB : pv_B c s sv cv) (hY : pv_Y c s sv cv I) {b : Nat} (hb31 : b < 2 ^ 31) : (rg_am sv s b ∧ ∃ l, rk_while (fun a9 : Int32 × Int32 × Int32 => f_X10_isRing_l7 I (nI b) a9.1 a9.2.1 a9.2.2) (0, 0, 0) = some (.inl (nI (rg_in sv b s), l, nI s))) ∨ (¬ rg_am sv s b ∧ rk_while (fun a9 : Int32 × Int32 × Int32 => f_X10_isRing_l7 I (nI b) a9.1 a9.2.1 a9.2.2) (0, 0, 0) = some (.inr 0)) := by
  obtain ⟨y1, y2, y3, y4⟩ := hY
  have hs := hB.2.1
  obtain ⟨z, e1, hz⟩ := pr_for0 (f := fun a9 : Int32 × Int32 × Int32 => f_X10_isRing_l7 I (nI b) a9.1 a9.2.1 a9.2.2) (fun k a => a.1 = nI (rg_in sv b k) ∧ a.2.2 = nI k ∧ ((a.2.1 = 0 ∧ ∀ i, i < k → b.testBit i = false) ∨ ∃ g, 0 < g ∧ g < 1000 ∧ a.2.1 = nI g ∧ (∃ i, i < k ∧ b.testBit i = true ∧ sv i 4 = g) ∧ ∀ i, i < k → b.testBit i = true → sv i 4 = g)) s (fun a => (rg_am sv s b ∧ ∃ y, a = .inl (nI (rg_in sv b s), y, nI s)) ∨ (¬ rg_am sv s b ∧ a = .inr 0)) (0, 0, 0) ⟨rfl, rfl, Or.inl ⟨rfl, fun i hi => absurd hi (Nat.not_lt_zero i)⟩⟩ (by
      rintro k ⟨w, x, y⟩ hk ⟨hw, hy, hx⟩
      have hw : w = nI (rg_in sv b k) := hw
      have hy : y = nI k := hy
      subst hw
      subst hy
      have c0 : ¬ nI s ≤ nI k := nI_ge hk (by omega)
      obtain ⟨-, -, r2, r3, r4, -⟩ := y3 k hk
      have hbb := hB.2.2.1 k hk
      have j45 : f_X10_isRing_j45 I (nI b) (nI (rg_in sv b k)) (nI k) = some (.inl (nI (rg_in sv b k ||| (2 ^ sv k 2 ||| 2 ^ sv k 3)), nI (sv k 4), nI (k + 1))) := by
        unfold f_X10_isRing_j45
        rw [pr_rd (by omega) (by omega), r4, pr_sb, pr_rd (by omega) (by omega), r2, pr_sb, pr_rd (by omega) (by omega), r3, pr_sb, rb_or3 hbb.2.2.1 hbb.2.2.2.1, nI_1]
      cases hbk : b.testBit k with
      | false =>
        left
        refine ⟨(nI (rg_in sv b (k + 1)), x, nI (k + 1)), ?_, rfl, rfl, ?_⟩
        · show f_X10_isRing_l7 I (nI b) (nI (rg_in sv b k)) x (nI k) = _
          unfold f_X10_isRing_l7
          simp only [rg_in, hbk, Bool.false_eq_true, if_false]
          rw [y2, if_neg c0, rb_sh hb31 (by omega), if_pos ((rb_t hb31).mpr hbk), nI_1]
        · rcases hx with ⟨hx, h1⟩ | ⟨g, g0, g1, hx, ⟨i, i1, i2⟩, h2⟩
          · refine Or.inl ⟨hx, fun i hi => ?_⟩
            by_cases hik : i = k
            · rw [hik]; exact hbk
            · exact h1 i (by omega)
          · refine Or.inr ⟨g, g0, g1, hx, ⟨i, by omega, i2⟩, fun i hi hbi => ?_⟩
            by_cases hik : i = k
            · rw [hik, hbk] at hbi; cases hbi
            · exact h2 i (by omega) hbi
      | true =>
        have hnb : ¬ (nI (b / 2 ^ k) &&& 1 = 0) := fun w => by rw [(rb_t hb31).mp w] at hbk; cases hbk
        have hin : rg_in sv b (k + 1) = rg_in sv b k ||| (2 ^ sv k 2 ||| 2 ^ sv k 3) := by simp only [rg_in, hbk, if_true]
        rcases hx with ⟨hx, h1⟩ | ⟨g, g0, g1, hx, ⟨i, i1, i2⟩, h2⟩
        · left
          have hx : x = 0 := hx
          subst hx
          refine ⟨(nI (rg_in sv b (k + 1)), nI (sv k 4), nI (k + 1)), ?_, rfl, rfl, Or.inr ⟨sv k 4, by omega, by omega, rfl, ⟨k, by omega, hbk, rfl⟩, fun i hi hbi => ?_⟩⟩
          · show f_X10_isRing_l7 I (nI b) (nI (rg_in sv b k)) 0 (nI k) = _
            unfold f_X10_isRing_l7
            rw [y2, if_neg c0, rb_sh hb31 (by omega), if_neg hnb, if_pos rfl, j45, hin]
          · by_cases hik : i = k
            · rw [hik]
            · rw [h1 i (by omega)] at hbi; cases hbi
        · have hx : x = nI g := hx
          subst hx
          have hg0 : ¬ nI g = 0 := nI_ne0 g0 (by omega)
          by_cases hkg : sv k 4 = g
          · left
            refine ⟨(nI (rg_in sv b (k + 1)), nI g, nI (k + 1)), ?_, rfl, rfl, Or.inr ⟨g, g0, g1, rfl, ⟨i, by omega, i2⟩, fun i hi hbi => ?_⟩⟩
            · show f_X10_isRing_l7 I (nI b) (nI (rg_in sv b k)) (nI g) (nI k) = _
              unfold f_X10_isRing_l7
              rw [y2, if_neg c0, rb_sh hb31 (by omega), if_neg hnb, if_neg hg0, pr_rd (by omega) (by omega), r4, pr_sb, if_pos (by rw [hkg]), j45, hin, hkg]
            · by_cases hik : i = k
              · rw [hik]; exact hkg
              · exact h2 i (by omega) hbi
          · right
            refine ⟨.inr 0, ?_, Or.inr ⟨fun h => hkg ?_, rfl⟩⟩
            · show f_X10_isRing_l7 I (nI b) (nI (rg_in sv b k)) (nI g) (nI k) = _
              unfold f_X10_isRing_l7
              rw [y2, if_neg c0, rb_sh hb31 (by omega), if_neg hnb, if_neg hg0, pr_rd (by omega) (by omega), r4, pr_sb, if_neg (fun e => hkg ((nI_eq (by omega) (by omega)).mp e))]
            · rw [← i2.2]
              exact h k i hk (by omega) hbk i2.1) (by
      rintro ⟨w, x, y⟩ ⟨hw, hy, hx⟩
      have hw : w = nI (rg_in sv b s) := hw
      have hy : y = nI s := hy
      subst hw
      subst hy
      refine ⟨.inl (nI (rg_in sv b s), x, nI s), ?_, Or.inl ⟨fun i j hi hj hbi hbj => ?_, _, rfl⟩⟩
      · show f_X10_isRing_l7 I (nI b) (nI (rg_in sv b s)) x (nI s) = _
        unfold f_X10_isRing_l7
        rw [y2, if_pos (nI_le (Nat.le_refl _) (by omega))]
      · rcases hx with ⟨-, h1⟩ | ⟨g, g0, g1, -, -, h2⟩
        · rw [h1 i hi] at hbi; cases hbi
        · rw [h2 i hi hbi, h2 j hj hbj])
  rcases hz with ⟨h1, y, rfl⟩ | ⟨h1, rfl⟩
  · exact Or.inl ⟨h1, y, e1⟩
  · exact Or.inr ⟨h1, e1⟩
end RG
