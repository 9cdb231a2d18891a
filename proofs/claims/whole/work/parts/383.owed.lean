/-! WHAT IS OWED for a sale at an hour: both sides -/
theorem ow_bd (x : Int32) {m : Nat} (hm : m < 2147483647) : ∃ l, l ≤ m ∧ f_X9_bounded x (nI m) = some (nI l) ∧ f_X10_within x 0 (nI m) = some (nI l) := by
  have hmi : (nI m).toInt = (m : Int) := nI_toInt (by omega)
  unfold f_X9_bounded f_X10_within rk_max rk_min
  rcases pr_tri x (m + 1) (by omega) with ⟨j, h1, rfl⟩ | h1 | h1
  · refine ⟨j, by omega, ?_, ?_⟩
    · rw [if_neg (nI_nlt (by omega) (by omega))]
      by_cases hj : (0 : Int32) < nI j
      · rw [if_pos hj]
      · rw [if_neg hj]
        have : j = 0 := by
          rcases Nat.eq_zero_or_pos j with h | h
          · exact h
          · exact absurd (nI_lt (a := 0) h (by omega)) hj
        rw [this]
        rfl
    · rw [if_pos (nI_pos' (by omega)), if_pos (nI_le (by omega) (by omega))]
  · refine ⟨0, by omega, ?_, ?_⟩
    · rw [if_neg (show ¬ nI m < x by rw [fa_lt, hmi]; omega), if_neg (show ¬ (0 : Int32) < x by rw [fa_lt, pr_z]; omega)]
      rfl
    · rw [if_neg (show ¬ (0 : Int32) ≤ x by rw [fa_le, pr_z]; omega)]
      rfl
  · refine ⟨m, Nat.le_refl _, ?_, ?_⟩
    · rw [if_pos (show nI m < x by rw [fa_lt, hmi]; omega)]
      by_cases hj : (0 : Int32) < nI m
      · rw [if_pos hj]
      · rw [if_neg hj]
        have : m = 0 := by
          rcases Nat.eq_zero_or_pos m with h | h
          · exact h
          · exact absurd (nI_lt (a := 0) h (by omega)) hj
        rw [this]
        rfl
    · rw [if_pos (show (0 : Int32) ≤ x by rw [fa_le, pr_z]; omega), if_neg (show ¬ x ≤ nI m by rw [fa_le, hmi]; omega)]
theorem ow_num {d l u p : Nat} (hd : d < 1000000) (hl : l < 1000000) (hu : u < 1000000) (hp : p < 1000000) : (((nI d + nI l) - nI u) - nI p).toInt64 = (((nI d).toInt64 + (nI l).toInt64) - (nI u).toInt64) - (nI p).toInt64 := by
  have i1 : (nI d).toInt = (d : Int) := nI_toInt (by omega)
  have i2 : (nI l).toInt = (l : Int) := nI_toInt (by omega)
  have i3 : (nI u).toInt = (u : Int) := nI_toInt (by omega)
  have i4 : (nI p).toInt = (p : Int) := nI_toInt (by omega)
  have a1 : (nI d + nI l).toInt = (d : Int) + l := by rw [fb_addI (by omega) (by omega), i1, i2]
  have a2 : ((nI d + nI l) - nI u).toInt = (d : Int) + l - u := by rw [fb_subI (by omega) (by omega), a1, i3]
  have a3 : (((nI d + nI l) - nI u) - nI p).toInt = (d : Int) + l - u - p := by rw [fb_subI (by omega) (by omega), a2, i4]
  have j1 : (nI d).toInt64.toInt = (d : Int) := by rw [Int32.toInt_toInt64, i1]
  have j2 : (nI l).toInt64.toInt = (l : Int) := by rw [Int32.toInt_toInt64, i2]
  have j3 : (nI u).toInt64.toInt = (u : Int) := by rw [Int32.toInt_toInt64, i3]
  have j4 : (nI p).toInt64.toInt = (p : Int) := by rw [Int32.toInt_toInt64, i4]
  have b1 : ((nI d).toInt64 + (nI l).toInt64).toInt = (d : Int) + l := by rw [fb_addL (by omega) (by omega), j1, j2]
  have b2 : (((nI d).toInt64 + (nI l).toInt64) - (nI u).toInt64).toInt = (d : Int) + l - u := by rw [fb_subL (by omega) (by omega), b1, j3]
  have b3 : ((((nI d).toInt64 + (nI l).toInt64) - (nI u).toInt64) - (nI p).toInt64).toInt = (d : Int) + l - u - p := by rw [fb_subL (by omega) (by omega), b2, j4]
  rw [fa_eq64, Int32.toInt_toInt64, a3, b3]
theorem ow_both {n c s t r : Nat} {oc os ot : Nat → Nat} {sv cv : pv_V} {S : rk_Sh} {I : rk_I} {R : rk_R} (hB : pv_B c s sv cv) (hX : pv_X n c s oc os sv cv S I R) (hY : pv_Y c s sv cv I) (hTt : pv_T n t r ot S I R) {k : Nat} (hk : k < s) (h : Int32) : ∃ v, (∀ I', kI I I' → ∃ I1, f_X9_owedFor S I' R (os k) h = some (v, I1) ∧ kI I I1) ∧ ∀ I' J, kI I I' → ∃ I2 J2, f_X10_owesOf I' J (nI k) h = some (v, I2, J2) ∧ kI I I2 := by
  have hs24 := hB.2.1
  have hb := hB.2.2.1 k hk
  have hos := (hX.1.2.1 k hk).1
  obtain ⟨-, -, -, x0, x2, x3, x4, x5, x6, x7, x8⟩ := hX.2.2.2.1 k hk
  obtain ⟨y0, y1, y2, y3, y4, y5, y6, y7, y8⟩ := hY.2.2.1 k hk
  have ec : ∀ I', kI I I' → I' (os k) = I (os k) := fun I' hI => kI_big hI (by omega)
  have em : ∀ I', kI I I' → ∀ q, 32 ≤ q → q < 47 → I' q = I q := fun I' hI q a b => kI_at hI q (fun i => by unfold kp; omega)
  have hD : sv k 5 * sv k 4 ≤ 999 * 999 := Nat.mul_le_mul (by omega) (by omega)
  by_cases hh : nI (sv k 6) ≤ h
  · obtain ⟨v0, c0, m0⟩ := rl_both hB hX hY hTt hk (w := 0) (by omega) h
    obtain ⟨v1, c1, m1⟩ := rl_both hB hX hY hTt hk (w := 1) (by omega) h
    obtain ⟨l, hl, l1, l2⟩ := ow_bd v0 (m := 9999) (by omega)
    obtain ⟨u, hu, u1, u2⟩ := ow_bd v1 (m := sv k 5 * sv k 4) (by omega)
    refine ⟨(((nI (sv k 5 * sv k 4) + nI l) - nI u) - nI (sv k 8)).toInt64, fun I' hI => ?_, fun I' J hI => ?_⟩
    · obtain ⟨I1, e1, r1⟩ := c0 I' hI
      obtain ⟨I2, e2, r2⟩ := c1 I1 r1
      refine ⟨I2, ?_, r2⟩
      have hdue : f_X5_due I2 (os k) = some (nI (sv k 5 * sv k 4)) := by
        unfold f_X5_due
        rw [ec I2 r2, x5, x4, pk_mul]
      unfold f_X9_owedFor
      rw [ec I' hI, x6, if_pos hh, show (0 : Int32) = nI 0 from rfl, e1, cq_b2, show (9999 : Int32) = nI 9999 from rfl, l1, pr_sb, show (1 : Int32) = nI 1 from rfl, e2, cq_b2, hdue, pr_sb, u1, pr_sb, pr_sb, ec I2 r2, x8]
    · obtain ⟨I1, J1, e1, r1⟩ := m0 I' J hI
      obtain ⟨I2, J2, e2, r2⟩ := m1 I1 J1 r1
      refine ⟨I2, J2, ?_, r2⟩
      have hdue : ∀ I'', kI I I'' → f_X10_dueOf I'' (nI k) = some (nI (sv k 5 * sv k 4)) := fun I'' hI' => by
        unfold f_X10_dueOf
        rw [pr_rd (by omega) (by omega), pr_sb, pr_rd (by omega) (by omega), pr_sb, em I'' hI' 43 (by omega) (by omega), em I'' hI' 42 (by omega) (by omega), y5, y4, pk_mul]
      unfold f_X10_owesOf
      rw [pr_rd (by omega) (by omega), pr_sb, em I' hI 44 (by omega) (by omega), y6, if_pos hh, hdue I' hI, pr_sb, show f_X10_read I' J (I' 31 4) (nI k) h 0 = _ from e1, cq_b3, show f_X10_within v0 0 9999 = _ from l2, pr_sb, show f_X10_read I1 J1 (I1 31 4) (nI k) h 1 = _ from e2, cq_b3, hdue I2 r2, pr_sb, u2, pr_sb, pr_rd (by omega) (by omega), pr_sb, em I2 r2 46 (by omega) (by omega), y8, ow_num (by omega) (by omega) (by omega) (by omega)]
  · refine ⟨0, fun I' hI => ⟨I', ?_, hI⟩, fun I' J hI => ⟨I', J, ?_, hI⟩⟩
    · unfold f_X9_owedFor
      rw [ec I' hI, x6, if_neg hh]
    · unfold f_X10_owesOf
      rw [pr_rd (by omega) (by omega), pr_sb, em I' hI 44 (by omega) (by omega), y6, if_neg hh]
