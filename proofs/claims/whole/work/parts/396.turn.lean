/-! ONE TURN OF THE LAW'S LOOP: both sides answer alike (printed by gen_law.py) -/
theorem lw_srd {L p k : Nat} {xs : Nat → Int32} (hL : L ≤ 3072) (h : p + k < L) : rk_srd L xs (nI p + nI k) = some (xs (p + k)) := by
  unfold rk_srd
  rw [nI_add, nI_clamp (by omega), if_neg]
  rintro (z | z)
  · exact nI_pos (by omega) z
  · omega
theorem iv_LC {n : Nat} {S : rk_Sh} {I : rk_I} {R : rk_R} (h : iv n S I R) : rk_LC S R := by
  obtain ⟨c, s, t, r, oc, os, ot, sv, cv, h1, -⟩ := h
  exact h1
theorem iv_LM {n : Nat} {S : rk_Sh} {I : rk_I} {R : rk_R} (h : iv n S I R) : rk_LM S R := by
  obtain ⟨c, s, t, r, oc, os, ot, sv, cv, -, h2, -⟩ := h
  exact h2
theorem iv_n {n : Nat} {S : rk_Sh} {I : rk_I} {R : rk_R} (h : iv n S I R) : n ≤ 200 := by
  obtain ⟨c, s, t, r, oc, os, ot, sv, cv, -, -, -, h4, h5, -, -, h8, -⟩ := h
  have a := h5.1
  have b := h5.2.1
  have d := h8.2.1
  omega
def lw_T (L : Nat) (xs : Nat → Int32) (n : Nat) (S : rk_Sh) (I : rk_I) (J : rk_J) (R : rk_R) (p : Nat) : Prop := ∃ n1 S1 I1 J1 R1, f_L_law_1000000_l18 L xs n S I J R (nI p) = some (.inl (nI (p + 6), n1, S1, I1, J1, R1)) ∧ iv n1 S1 I1 R1
section LT
variable {L p n : Nat} {xs : Nat → Int32} {S : rk_Sh} {I : rk_I} {J : rk_J} {R : rk_R}
set_option maxHeartbeats 4000000 in
theorem lw_0 (hL : L ≤ 3072) (hp : p + 6 ≤ L) (h : iv n S I R) (hk : xs p &&& 31 = 0) : lw_T L xs n S I J R p := by
  obtain ⟨v, n1, S1, I1, J1, R1, I2, e1, e2, hi⟩ := ck_cargo (J := J) h (xs (p + 1)) (xs (p + 2))
  refine ⟨n1, S1, I2, J1, R1, ?_, hi⟩
  have g0 : rk_srd L xs (nI p) = some (xs p) := by
    have := lw_srd (k := 0) (xs := xs) hL (by omega : p + 0 < L)
    rwa [nI_add, Nat.add_zero] at this
  have g1 : rk_srd L xs (nI p + 1) = some (xs (p + 1)) := lw_srd (k := 1) hL (by omega)
  have g2 : rk_srd L xs (nI p + 2) = some (xs (p + 2)) := lw_srd (k := 2) hL (by omega)
  have hend : ¬ ((Int32.ofNat L) - 6) < nI p := by
    rw [show (Int32.ofNat L) - 6 = nI (L - 6) from pk_sub (a := L) (b := 6) (by omega)]
    exact nI_nlt (by omega) (by omega)
  unfold f_L_law_1000000_l18
  rw [if_neg hend, g0, pr_sb, if_pos hk, g1, pr_sb, g2, pr_sb, pr_layC (iv_LC h), pr_sb, e1, pr_b6, pr_sb, pr_sb, pr_layM (iv_LM hi), pr_sb, e2, cq_b2, if_pos rfl, show nI p + 6 = nI (p + 6) from nI_add p 6]
set_option maxHeartbeats 4000000 in
theorem lw_1 (hL : L ≤ 3072) (hp : p + 6 ≤ L) (h : iv n S I R) (hk : xs p &&& 31 = 1) : lw_T L xs n S I J R p := by
  obtain ⟨v, I1, I2, e1, e2, hi⟩ := ck_hour h (xs (p + 1)) (xs (p + 2)) (xs (p + 3))
  refine ⟨n, S, I2, J, R, ?_, hi⟩
  have g0 : rk_srd L xs (nI p) = some (xs p) := by
    have := lw_srd (k := 0) (xs := xs) hL (by omega : p + 0 < L)
    rwa [nI_add, Nat.add_zero] at this
  have g1 : rk_srd L xs (nI p + 1) = some (xs (p + 1)) := lw_srd (k := 1) hL (by omega)
  have g2 : rk_srd L xs (nI p + 2) = some (xs (p + 2)) := lw_srd (k := 2) hL (by omega)
  have g3 : rk_srd L xs (nI p + 3) = some (xs (p + 3)) := lw_srd (k := 3) hL (by omega)
  have hend : ¬ ((Int32.ofNat L) - 6) < nI p := by
    rw [show (Int32.ofNat L) - 6 = nI (L - 6) from pk_sub (a := L) (b := 6) (by omega)]
    exact nI_nlt (by omega) (by omega)
  unfold f_L_law_1000000_l18
  rw [if_neg hend, g0, pr_sb, if_neg (show ¬ xs p &&& 31 = 0 by rw [hk]; decide), if_pos hk, g1, pr_sb, g2, pr_sb, g3, pr_sb, pr_layC (iv_LC h), pr_sb, e1, cq_b2, pr_sb, pr_sb, pr_sb, pr_layM (iv_LM hi), pr_sb, e2, cq_b2, if_pos rfl, show nI p + 6 = nI (p + 6) from nI_add p 6]
set_option maxHeartbeats 4000000 in
theorem lw_2 (hL : L ≤ 3072) (hp : p + 6 ≤ L) (h : iv n S I R) (hk : xs p &&& 31 = 2) : lw_T L xs n S I J R p := by
  obtain ⟨v, n1, S1, I1, J1, R1, I2, e1, e2, hi⟩ := ck_sale (J := J) h (xs (p + 1)) (xs (p + 2)) (xs (p + 3)) (xs (p + 4)) (xs (p + 5))
  refine ⟨n1, S1, I2, J1, R1, ?_, hi⟩
  have g0 : rk_srd L xs (nI p) = some (xs p) := by
    have := lw_srd (k := 0) (xs := xs) hL (by omega : p + 0 < L)
    rwa [nI_add, Nat.add_zero] at this
  have g1 : rk_srd L xs (nI p + 1) = some (xs (p + 1)) := lw_srd (k := 1) hL (by omega)
  have g2 : rk_srd L xs (nI p + 2) = some (xs (p + 2)) := lw_srd (k := 2) hL (by omega)
  have g3 : rk_srd L xs (nI p + 3) = some (xs (p + 3)) := lw_srd (k := 3) hL (by omega)
  have g4 : rk_srd L xs (nI p + 4) = some (xs (p + 4)) := lw_srd (k := 4) hL (by omega)
  have g5 : rk_srd L xs (nI p + 5) = some (xs (p + 5)) := lw_srd (k := 5) hL (by omega)
  have hend : ¬ ((Int32.ofNat L) - 6) < nI p := by
    rw [show (Int32.ofNat L) - 6 = nI (L - 6) from pk_sub (a := L) (b := 6) (by omega)]
    exact nI_nlt (by omega) (by omega)
  unfold f_L_law_1000000_l18
  rw [if_neg hend, g0, pr_sb, if_neg (show ¬ xs p &&& 31 = 0 by rw [hk]; decide), if_neg (show ¬ xs p &&& 31 = 1 by rw [hk]; decide), if_pos hk, g1, pr_sb, g2, pr_sb, g3, pr_sb, g4, pr_sb, g5, pr_sb, pr_layC (iv_LC h), pr_sb, e1, pr_b6, pr_sb, pr_sb, pr_sb, pr_sb, pr_sb, pr_layM (iv_LM hi), pr_sb, e2, cq_b2, if_pos rfl, show nI p + 6 = nI (p + 6) from nI_add p 6]
set_option maxHeartbeats 4000000 in
theorem lw_3 (hL : L ≤ 3072) (hp : p + 6 ≤ L) (h : iv n S I R) (hk : xs p &&& 31 = 3) : lw_T L xs n S I J R p := by
  obtain ⟨v, I1, I2, e1, e2, hi⟩ := ck_paper h (xs (p + 1)) (xs (p + 2))
  refine ⟨n, S, I2, J, R, ?_, hi⟩
  have g0 : rk_srd L xs (nI p) = some (xs p) := by
    have := lw_srd (k := 0) (xs := xs) hL (by omega : p + 0 < L)
    rwa [nI_add, Nat.add_zero] at this
  have g1 : rk_srd L xs (nI p + 1) = some (xs (p + 1)) := lw_srd (k := 1) hL (by omega)
  have g2 : rk_srd L xs (nI p + 2) = some (xs (p + 2)) := lw_srd (k := 2) hL (by omega)
  have hend : ¬ ((Int32.ofNat L) - 6) < nI p := by
    rw [show (Int32.ofNat L) - 6 = nI (L - 6) from pk_sub (a := L) (b := 6) (by omega)]
    exact nI_nlt (by omega) (by omega)
  unfold f_L_law_1000000_l18
  rw [if_neg hend, g0, pr_sb, if_neg (show ¬ xs p &&& 31 = 0 by rw [hk]; decide), if_neg (show ¬ xs p &&& 31 = 1 by rw [hk]; decide), if_neg (show ¬ xs p &&& 31 = 2 by rw [hk]; decide), if_pos hk, g1, pr_sb, g2, pr_sb, pr_layC (iv_LC h), pr_sb, e1, cq_b2, pr_sb, pr_sb, pr_layM (iv_LM hi), pr_sb, e2, cq_b2, if_pos rfl, show nI p + 6 = nI (p + 6) from nI_add p 6]
set_option maxHeartbeats 4000000 in
theorem lw_4 (hL : L ≤ 3072) (hp : p + 6 ≤ L) (h : iv n S I R) (hk : xs p &&& 31 = 4) : lw_T L xs n S I J R p := by
  obtain ⟨v, I1, I2, e1, e2, hi⟩ := ck_pay h (xs (p + 1)) (xs (p + 2))
  refine ⟨n, S, I2, J, R, ?_, hi⟩
  have g0 : rk_srd L xs (nI p) = some (xs p) := by
    have := lw_srd (k := 0) (xs := xs) hL (by omega : p + 0 < L)
    rwa [nI_add, Nat.add_zero] at this
  have g1 : rk_srd L xs (nI p + 1) = some (xs (p + 1)) := lw_srd (k := 1) hL (by omega)
  have g2 : rk_srd L xs (nI p + 2) = some (xs (p + 2)) := lw_srd (k := 2) hL (by omega)
  have hend : ¬ ((Int32.ofNat L) - 6) < nI p := by
    rw [show (Int32.ofNat L) - 6 = nI (L - 6) from pk_sub (a := L) (b := 6) (by omega)]
    exact nI_nlt (by omega) (by omega)
  unfold f_L_law_1000000_l18
  rw [if_neg hend, g0, pr_sb, if_neg (show ¬ xs p &&& 31 = 0 by rw [hk]; decide), if_neg (show ¬ xs p &&& 31 = 1 by rw [hk]; decide), if_neg (show ¬ xs p &&& 31 = 2 by rw [hk]; decide), if_neg (show ¬ xs p &&& 31 = 3 by rw [hk]; decide), if_pos hk, g1, pr_sb, g2, pr_sb, pr_layC (iv_LC h), pr_sb, e1, cq_b2, pr_sb, pr_sb, pr_layM (iv_LM hi), pr_sb, e2, cq_b2, if_pos rfl, show nI p + 6 = nI (p + 6) from nI_add p 6]
set_option maxHeartbeats 4000000 in
theorem lw_5 (hL : L ≤ 3072) (hp : p + 6 ≤ L) (h : iv n S I R) (hk : xs p &&& 31 = 5) : lw_T L xs n S I J R p := by
  obtain ⟨v, e1, e2⟩ := ck_told h (xs (p + 1)) (xs (p + 2))
  have hi := h
  refine ⟨n, S, I, J, R, ?_, hi⟩
  have g0 : rk_srd L xs (nI p) = some (xs p) := by
    have := lw_srd (k := 0) (xs := xs) hL (by omega : p + 0 < L)
    rwa [nI_add, Nat.add_zero] at this
  have g1 : rk_srd L xs (nI p + 1) = some (xs (p + 1)) := lw_srd (k := 1) hL (by omega)
  have g2 : rk_srd L xs (nI p + 2) = some (xs (p + 2)) := lw_srd (k := 2) hL (by omega)
  have hend : ¬ ((Int32.ofNat L) - 6) < nI p := by
    rw [show (Int32.ofNat L) - 6 = nI (L - 6) from pk_sub (a := L) (b := 6) (by omega)]
    exact nI_nlt (by omega) (by omega)
  unfold f_L_law_1000000_l18
  rw [if_neg hend, g0, pr_sb, if_neg (show ¬ xs p &&& 31 = 0 by rw [hk]; decide), if_neg (show ¬ xs p &&& 31 = 1 by rw [hk]; decide), if_neg (show ¬ xs p &&& 31 = 2 by rw [hk]; decide), if_neg (show ¬ xs p &&& 31 = 3 by rw [hk]; decide), if_neg (show ¬ xs p &&& 31 = 4 by rw [hk]; decide), if_pos hk, g1, pr_sb, g2, pr_sb, pr_layC (iv_LC h), pr_sb, e1, pr_sb, pr_sb, pr_sb, pr_layM (iv_LM hi), pr_sb, e2, pr_sb, if_pos rfl, show nI p + 6 = nI (p + 6) from nI_add p 6]
set_option maxHeartbeats 4000000 in
theorem lw_6 (hL : L ≤ 3072) (hp : p + 6 ≤ L) (h : iv n S I R) (hk : xs p &&& 31 = 6) : lw_T L xs n S I J R p := by
  obtain ⟨v, I1, R1, I2, e1, e2, hi⟩ := ck_whose h (xs (p + 1)) (xs (p + 2)) (xs (p + 3)) (xs (p + 4))
  refine ⟨n, S, I2, J, R1, ?_, hi⟩
  have g0 : rk_srd L xs (nI p) = some (xs p) := by
    have := lw_srd (k := 0) (xs := xs) hL (by omega : p + 0 < L)
    rwa [nI_add, Nat.add_zero] at this
  have g1 : rk_srd L xs (nI p + 1) = some (xs (p + 1)) := lw_srd (k := 1) hL (by omega)
  have g2 : rk_srd L xs (nI p + 2) = some (xs (p + 2)) := lw_srd (k := 2) hL (by omega)
  have g3 : rk_srd L xs (nI p + 3) = some (xs (p + 3)) := lw_srd (k := 3) hL (by omega)
  have g4 : rk_srd L xs (nI p + 4) = some (xs (p + 4)) := lw_srd (k := 4) hL (by omega)
  have hend : ¬ ((Int32.ofNat L) - 6) < nI p := by
    rw [show (Int32.ofNat L) - 6 = nI (L - 6) from pk_sub (a := L) (b := 6) (by omega)]
    exact nI_nlt (by omega) (by omega)
  unfold f_L_law_1000000_l18
  rw [if_neg hend, g0, pr_sb, if_neg (show ¬ xs p &&& 31 = 0 by rw [hk]; decide), if_neg (show ¬ xs p &&& 31 = 1 by rw [hk]; decide), if_neg (show ¬ xs p &&& 31 = 2 by rw [hk]; decide), if_neg (show ¬ xs p &&& 31 = 3 by rw [hk]; decide), if_neg (show ¬ xs p &&& 31 = 4 by rw [hk]; decide), if_neg (show ¬ xs p &&& 31 = 5 by rw [hk]; decide), if_pos hk, g1, pr_sb, g2, pr_sb, g3, pr_sb, g4, pr_sb, pr_layC (iv_LC h), pr_sb, e1, cq_b3, pr_sb, pr_sb, pr_sb, pr_sb, pr_layM (iv_LM hi), pr_sb, e2, cq_b2, if_pos rfl, show nI p + 6 = nI (p + 6) from nI_add p 6]
set_option maxHeartbeats 4000000 in
theorem lw_7 (hL : L ≤ 3072) (hp : p + 6 ≤ L) (h : iv n S I R) (hk : xs p &&& 31 = 7) : lw_T L xs n S I J R p := by
  obtain ⟨v, I1, R1, I2, e1, e2, hi⟩ := ck_falls h (xs (p + 1)) (xs (p + 2)) (xs (p + 3)) (xs (p + 4))
  refine ⟨n, S, I2, J, R1, ?_, hi⟩
  have g0 : rk_srd L xs (nI p) = some (xs p) := by
    have := lw_srd (k := 0) (xs := xs) hL (by omega : p + 0 < L)
    rwa [nI_add, Nat.add_zero] at this
  have g1 : rk_srd L xs (nI p + 1) = some (xs (p + 1)) := lw_srd (k := 1) hL (by omega)
  have g2 : rk_srd L xs (nI p + 2) = some (xs (p + 2)) := lw_srd (k := 2) hL (by omega)
  have g3 : rk_srd L xs (nI p + 3) = some (xs (p + 3)) := lw_srd (k := 3) hL (by omega)
  have g4 : rk_srd L xs (nI p + 4) = some (xs (p + 4)) := lw_srd (k := 4) hL (by omega)
  have hend : ¬ ((Int32.ofNat L) - 6) < nI p := by
    rw [show (Int32.ofNat L) - 6 = nI (L - 6) from pk_sub (a := L) (b := 6) (by omega)]
    exact nI_nlt (by omega) (by omega)
  unfold f_L_law_1000000_l18
  rw [if_neg hend, g0, pr_sb, if_neg (show ¬ xs p &&& 31 = 0 by rw [hk]; decide), if_neg (show ¬ xs p &&& 31 = 1 by rw [hk]; decide), if_neg (show ¬ xs p &&& 31 = 2 by rw [hk]; decide), if_neg (show ¬ xs p &&& 31 = 3 by rw [hk]; decide), if_neg (show ¬ xs p &&& 31 = 4 by rw [hk]; decide), if_neg (show ¬ xs p &&& 31 = 5 by rw [hk]; decide), if_neg (show ¬ xs p &&& 31 = 6 by rw [hk]; decide), if_pos hk, g1, pr_sb, g2, pr_sb, g3, pr_sb, g4, pr_sb, pr_layC (iv_LC h), pr_sb, e1, cq_b3, pr_sb, pr_sb, pr_sb, pr_sb, pr_layM (iv_LM hi), pr_sb, e2, cq_b2, if_pos ((lg_eq v v).mpr rfl), show nI p + 6 = nI (p + 6) from nI_add p 6]
set_option maxHeartbeats 4000000 in
theorem lw_8 (hL : L ≤ 3072) (hp : p + 6 ≤ L) (h : iv n S I R) (hk : xs p &&& 31 = 8) : lw_T L xs n S I J R p := by
  obtain ⟨v, I1, R1, I2, e1, e2, hi⟩ := ck_between h (xs (p + 1)) (xs (p + 2)) (xs (p + 3)) (xs (p + 4))
  refine ⟨n, S, I2, J, R1, ?_, hi⟩
  have g0 : rk_srd L xs (nI p) = some (xs p) := by
    have := lw_srd (k := 0) (xs := xs) hL (by omega : p + 0 < L)
    rwa [nI_add, Nat.add_zero] at this
  have g1 : rk_srd L xs (nI p + 1) = some (xs (p + 1)) := lw_srd (k := 1) hL (by omega)
  have g2 : rk_srd L xs (nI p + 2) = some (xs (p + 2)) := lw_srd (k := 2) hL (by omega)
  have g3 : rk_srd L xs (nI p + 3) = some (xs (p + 3)) := lw_srd (k := 3) hL (by omega)
  have g4 : rk_srd L xs (nI p + 4) = some (xs (p + 4)) := lw_srd (k := 4) hL (by omega)
  have hend : ¬ ((Int32.ofNat L) - 6) < nI p := by
    rw [show (Int32.ofNat L) - 6 = nI (L - 6) from pk_sub (a := L) (b := 6) (by omega)]
    exact nI_nlt (by omega) (by omega)
  unfold f_L_law_1000000_l18
  rw [if_neg hend, g0, pr_sb, if_neg (show ¬ xs p &&& 31 = 0 by rw [hk]; decide), if_neg (show ¬ xs p &&& 31 = 1 by rw [hk]; decide), if_neg (show ¬ xs p &&& 31 = 2 by rw [hk]; decide), if_neg (show ¬ xs p &&& 31 = 3 by rw [hk]; decide), if_neg (show ¬ xs p &&& 31 = 4 by rw [hk]; decide), if_neg (show ¬ xs p &&& 31 = 5 by rw [hk]; decide), if_neg (show ¬ xs p &&& 31 = 6 by rw [hk]; decide), if_neg (show ¬ xs p &&& 31 = 7 by rw [hk]; decide), if_pos hk, g1, pr_sb, g2, pr_sb, g3, pr_sb, g4, pr_sb, pr_layC (iv_LC h), pr_sb, e1, cq_b3, pr_sb, pr_sb, pr_sb, pr_sb, pr_layM (iv_LM hi), pr_sb, e2, cq_b2, if_pos rfl, show nI p + 6 = nI (p + 6) from nI_add p 6]
set_option maxHeartbeats 4000000 in
theorem lw_9 (hL : L ≤ 3072) (hp : p + 6 ≤ L) (h : iv n S I R) (hk : xs p &&& 31 = 9) : lw_T L xs n S I J R p := by
  obtain ⟨v, I1, I2, e1, e2, hi⟩ := ck_feed h (xs (p + 1)) ((rk_lsl (xs (p + 2)).toInt64 32) ||| ((xs (p + 3)).toInt64 &&& 4294967295))
  refine ⟨n, S, I2, J, R, ?_, hi⟩
  have g0 : rk_srd L xs (nI p) = some (xs p) := by
    have := lw_srd (k := 0) (xs := xs) hL (by omega : p + 0 < L)
    rwa [nI_add, Nat.add_zero] at this
  have g1 : rk_srd L xs (nI p + 1) = some (xs (p + 1)) := lw_srd (k := 1) hL (by omega)
  have g2 : rk_srd L xs (nI p + 2) = some (xs (p + 2)) := lw_srd (k := 2) hL (by omega)
  have g3 : rk_srd L xs (nI p + 3) = some (xs (p + 3)) := lw_srd (k := 3) hL (by omega)
  have hend : ¬ ((Int32.ofNat L) - 6) < nI p := by
    rw [show (Int32.ofNat L) - 6 = nI (L - 6) from pk_sub (a := L) (b := 6) (by omega)]
    exact nI_nlt (by omega) (by omega)
  unfold f_L_law_1000000_l18
  rw [if_neg hend, g0, pr_sb, if_neg (show ¬ xs p &&& 31 = 0 by rw [hk]; decide), if_neg (show ¬ xs p &&& 31 = 1 by rw [hk]; decide), if_neg (show ¬ xs p &&& 31 = 2 by rw [hk]; decide), if_neg (show ¬ xs p &&& 31 = 3 by rw [hk]; decide), if_neg (show ¬ xs p &&& 31 = 4 by rw [hk]; decide), if_neg (show ¬ xs p &&& 31 = 5 by rw [hk]; decide), if_neg (show ¬ xs p &&& 31 = 6 by rw [hk]; decide), if_neg (show ¬ xs p &&& 31 = 7 by rw [hk]; decide), if_neg (show ¬ xs p &&& 31 = 8 by rw [hk]; decide), if_pos hk, g1, pr_sb, g2, pr_sb, g3, pr_sb, pr_layC (iv_LC h), pr_sb, e1, cq_b2, pr_sb, pr_sb, pr_sb, pr_layM (iv_LM hi), pr_sb, e2, cq_b2, if_pos rfl, show nI p + 6 = nI (p + 6) from nI_add p 6]
set_option maxHeartbeats 4000000 in
theorem lw_10 (hL : L ≤ 3072) (hp : p + 6 ≤ L) (h : iv n S I R) (hk : xs p &&& 31 = 10) : lw_T L xs n S I J R p := by
  obtain ⟨v, n1, S1, I1, J1, R1, I2, J2, e1, e2, hi⟩ := ck_text (J := J) h
  refine ⟨n1, S1, I2, J2, R1, ?_, hi⟩
  have g0 : rk_srd L xs (nI p) = some (xs p) := by
    have := lw_srd (k := 0) (xs := xs) hL (by omega : p + 0 < L)
    rwa [nI_add, Nat.add_zero] at this
  have hend : ¬ ((Int32.ofNat L) - 6) < nI p := by
    rw [show (Int32.ofNat L) - 6 = nI (L - 6) from pk_sub (a := L) (b := 6) (by omega)]
    exact nI_nlt (by omega) (by omega)
  unfold f_L_law_1000000_l18
  rw [if_neg hend, g0, pr_sb, if_neg (show ¬ xs p &&& 31 = 0 by rw [hk]; decide), if_neg (show ¬ xs p &&& 31 = 1 by rw [hk]; decide), if_neg (show ¬ xs p &&& 31 = 2 by rw [hk]; decide), if_neg (show ¬ xs p &&& 31 = 3 by rw [hk]; decide), if_neg (show ¬ xs p &&& 31 = 4 by rw [hk]; decide), if_neg (show ¬ xs p &&& 31 = 5 by rw [hk]; decide), if_neg (show ¬ xs p &&& 31 = 6 by rw [hk]; decide), if_neg (show ¬ xs p &&& 31 = 7 by rw [hk]; decide), if_neg (show ¬ xs p &&& 31 = 8 by rw [hk]; decide), if_neg (show ¬ xs p &&& 31 = 9 by rw [hk]; decide), if_pos hk, pr_layC (iv_LC h), pr_sb, e1, pr_b6, pr_layM (iv_LM hi), pr_sb, e2, cq_b3, if_pos rfl, show nI p + 6 = nI (p + 6) from nI_add p 6]
set_option maxHeartbeats 4000000 in
theorem lw_11 (hL : L ≤ 3072) (hp : p + 6 ≤ L) (h : iv n S I R) (hk : xs p &&& 31 = 11) : lw_T L xs n S I J R p := by
  obtain ⟨v, I1, I2, e1, e2, hi⟩ := ck_force h (xs (p + 1))
  refine ⟨n, S, I2, J, R, ?_, hi⟩
  have g0 : rk_srd L xs (nI p) = some (xs p) := by
    have := lw_srd (k := 0) (xs := xs) hL (by omega : p + 0 < L)
    rwa [nI_add, Nat.add_zero] at this
  have g1 : rk_srd L xs (nI p + 1) = some (xs (p + 1)) := lw_srd (k := 1) hL (by omega)
  have hend : ¬ ((Int32.ofNat L) - 6) < nI p := by
    rw [show (Int32.ofNat L) - 6 = nI (L - 6) from pk_sub (a := L) (b := 6) (by omega)]
    exact nI_nlt (by omega) (by omega)
  unfold f_L_law_1000000_l18
  rw [if_neg hend, g0, pr_sb, if_neg (show ¬ xs p &&& 31 = 0 by rw [hk]; decide), if_neg (show ¬ xs p &&& 31 = 1 by rw [hk]; decide), if_neg (show ¬ xs p &&& 31 = 2 by rw [hk]; decide), if_neg (show ¬ xs p &&& 31 = 3 by rw [hk]; decide), if_neg (show ¬ xs p &&& 31 = 4 by rw [hk]; decide), if_neg (show ¬ xs p &&& 31 = 5 by rw [hk]; decide), if_neg (show ¬ xs p &&& 31 = 6 by rw [hk]; decide), if_neg (show ¬ xs p &&& 31 = 7 by rw [hk]; decide), if_neg (show ¬ xs p &&& 31 = 8 by rw [hk]; decide), if_neg (show ¬ xs p &&& 31 = 9 by rw [hk]; decide), if_neg (show ¬ xs p &&& 31 = 10 by rw [hk]; decide), if_pos hk, g1, pr_sb, pr_layC (iv_LC h), pr_sb, e1, cq_b2, pr_sb, pr_layM (iv_LM hi), pr_sb, e2, cq_b2, if_pos rfl, show nI p + 6 = nI (p + 6) from nI_add p 6]
set_option maxHeartbeats 4000000 in
theorem lw_12 (hL : L ≤ 3072) (hp : p + 6 ≤ L) (h : iv n S I R) (hk : xs p &&& 31 = 12) : lw_T L xs n S I J R p := by
  obtain ⟨v, I1, I2, J2, e1, e2, hi⟩ := ck_owes h J (xs (p + 1)) (xs (p + 2))
  refine ⟨n, S, I2, J2, R, ?_, hi⟩
  have g0 : rk_srd L xs (nI p) = some (xs p) := by
    have := lw_srd (k := 0) (xs := xs) hL (by omega : p + 0 < L)
    rwa [nI_add, Nat.add_zero] at this
  have g1 : rk_srd L xs (nI p + 1) = some (xs (p + 1)) := lw_srd (k := 1) hL (by omega)
  have g2 : rk_srd L xs (nI p + 2) = some (xs (p + 2)) := lw_srd (k := 2) hL (by omega)
  have hend : ¬ ((Int32.ofNat L) - 6) < nI p := by
    rw [show (Int32.ofNat L) - 6 = nI (L - 6) from pk_sub (a := L) (b := 6) (by omega)]
    exact nI_nlt (by omega) (by omega)
  unfold f_L_law_1000000_l18
  rw [if_neg hend, g0, pr_sb, if_neg (show ¬ xs p &&& 31 = 0 by rw [hk]; decide), if_neg (show ¬ xs p &&& 31 = 1 by rw [hk]; decide), if_neg (show ¬ xs p &&& 31 = 2 by rw [hk]; decide), if_neg (show ¬ xs p &&& 31 = 3 by rw [hk]; decide), if_neg (show ¬ xs p &&& 31 = 4 by rw [hk]; decide), if_neg (show ¬ xs p &&& 31 = 5 by rw [hk]; decide), if_neg (show ¬ xs p &&& 31 = 6 by rw [hk]; decide), if_neg (show ¬ xs p &&& 31 = 7 by rw [hk]; decide), if_neg (show ¬ xs p &&& 31 = 8 by rw [hk]; decide), if_neg (show ¬ xs p &&& 31 = 9 by rw [hk]; decide), if_neg (show ¬ xs p &&& 31 = 10 by rw [hk]; decide), if_neg (show ¬ xs p &&& 31 = 11 by rw [hk]; decide), if_pos hk, g1, pr_sb, g2, pr_sb, pr_layC (iv_LC h), pr_sb, e1, cq_b2, pr_sb, pr_sb, pr_layM (iv_LM hi), pr_sb, e2, cq_b3, if_pos ((lg_eq v v).mpr rfl), show nI p + 6 = nI (p + 6) from nI_add p 6]
set_option maxHeartbeats 4000000 in
theorem lw_13 (hL : L ≤ 3072) (hp : p + 6 ≤ L) (h : iv n S I R) (hk : xs p &&& 31 = 13) : lw_T L xs n S I J R p := by
  obtain ⟨v, I1, I2, J2, e1, e2, hi⟩ := ck_balance h J (xs (p + 1)) (xs (p + 2))
  refine ⟨n, S, I2, J2, R, ?_, hi⟩
  have g0 : rk_srd L xs (nI p) = some (xs p) := by
    have := lw_srd (k := 0) (xs := xs) hL (by omega : p + 0 < L)
    rwa [nI_add, Nat.add_zero] at this
  have g1 : rk_srd L xs (nI p + 1) = some (xs (p + 1)) := lw_srd (k := 1) hL (by omega)
  have g2 : rk_srd L xs (nI p + 2) = some (xs (p + 2)) := lw_srd (k := 2) hL (by omega)
  have hend : ¬ ((Int32.ofNat L) - 6) < nI p := by
    rw [show (Int32.ofNat L) - 6 = nI (L - 6) from pk_sub (a := L) (b := 6) (by omega)]
    exact nI_nlt (by omega) (by omega)
  unfold f_L_law_1000000_l18
  rw [if_neg hend, g0, pr_sb, if_neg (show ¬ xs p &&& 31 = 0 by rw [hk]; decide), if_neg (show ¬ xs p &&& 31 = 1 by rw [hk]; decide), if_neg (show ¬ xs p &&& 31 = 2 by rw [hk]; decide), if_neg (show ¬ xs p &&& 31 = 3 by rw [hk]; decide), if_neg (show ¬ xs p &&& 31 = 4 by rw [hk]; decide), if_neg (show ¬ xs p &&& 31 = 5 by rw [hk]; decide), if_neg (show ¬ xs p &&& 31 = 6 by rw [hk]; decide), if_neg (show ¬ xs p &&& 31 = 7 by rw [hk]; decide), if_neg (show ¬ xs p &&& 31 = 8 by rw [hk]; decide), if_neg (show ¬ xs p &&& 31 = 9 by rw [hk]; decide), if_neg (show ¬ xs p &&& 31 = 10 by rw [hk]; decide), if_neg (show ¬ xs p &&& 31 = 11 by rw [hk]; decide), if_neg (show ¬ xs p &&& 31 = 12 by rw [hk]; decide), if_pos hk, g1, pr_sb, g2, pr_sb, pr_layC (iv_LC h), pr_sb, e1, cq_b2, pr_sb, pr_sb, pr_layM (iv_LM hi), pr_sb, e2, cq_b3, if_pos ((lg_eq v v).mpr rfl), show nI p + 6 = nI (p + 6) from nI_add p 6]
set_option maxHeartbeats 4000000 in
theorem lw_14 (hL : L ≤ 3072) (hp : p + 6 ≤ L) (h : iv n S I R) (hk : xs p &&& 31 = 14) : lw_T L xs n S I J R p := by
  obtain ⟨v, I1, R1, e1, e2, hi⟩ := ck_closes h (xs (p + 1))
  refine ⟨n, S, I1, J, R1, ?_, hi⟩
  have g0 : rk_srd L xs (nI p) = some (xs p) := by
    have := lw_srd (k := 0) (xs := xs) hL (by omega : p + 0 < L)
    rwa [nI_add, Nat.add_zero] at this
  have g1 : rk_srd L xs (nI p + 1) = some (xs (p + 1)) := lw_srd (k := 1) hL (by omega)
  have hend : ¬ ((Int32.ofNat L) - 6) < nI p := by
    rw [show (Int32.ofNat L) - 6 = nI (L - 6) from pk_sub (a := L) (b := 6) (by omega)]
    exact nI_nlt (by omega) (by omega)
  unfold f_L_law_1000000_l18
  rw [if_neg hend, g0, pr_sb, if_neg (show ¬ xs p &&& 31 = 0 by rw [hk]; decide), if_neg (show ¬ xs p &&& 31 = 1 by rw [hk]; decide), if_neg (show ¬ xs p &&& 31 = 2 by rw [hk]; decide), if_neg (show ¬ xs p &&& 31 = 3 by rw [hk]; decide), if_neg (show ¬ xs p &&& 31 = 4 by rw [hk]; decide), if_neg (show ¬ xs p &&& 31 = 5 by rw [hk]; decide), if_neg (show ¬ xs p &&& 31 = 6 by rw [hk]; decide), if_neg (show ¬ xs p &&& 31 = 7 by rw [hk]; decide), if_neg (show ¬ xs p &&& 31 = 8 by rw [hk]; decide), if_neg (show ¬ xs p &&& 31 = 9 by rw [hk]; decide), if_neg (show ¬ xs p &&& 31 = 10 by rw [hk]; decide), if_neg (show ¬ xs p &&& 31 = 11 by rw [hk]; decide), if_neg (show ¬ xs p &&& 31 = 12 by rw [hk]; decide), if_neg (show ¬ xs p &&& 31 = 13 by rw [hk]; decide), if_pos hk, g1, pr_sb, pr_layC (iv_LC h), pr_sb, e1, cq_b3, pr_sb, pr_layM (iv_LM hi), pr_sb, e2, pr_sb, if_pos rfl, show nI p + 6 = nI (p + 6) from nI_add p 6]
set_option maxHeartbeats 4000000 in
theorem lw_15 (hL : L ≤ 3072) (hp : p + 6 ≤ L) (h : iv n S I R) (hk : xs p &&& 31 = 15) : lw_T L xs n S I J R p := by
  obtain ⟨v, I1, R1, e1, e2, hi⟩ := ck_differ h (xs (p + 1)) (xs (p + 2))
  refine ⟨n, S, I1, J, R1, ?_, hi⟩
  have g0 : rk_srd L xs (nI p) = some (xs p) := by
    have := lw_srd (k := 0) (xs := xs) hL (by omega : p + 0 < L)
    rwa [nI_add, Nat.add_zero] at this
  have g1 : rk_srd L xs (nI p + 1) = some (xs (p + 1)) := lw_srd (k := 1) hL (by omega)
  have g2 : rk_srd L xs (nI p + 2) = some (xs (p + 2)) := lw_srd (k := 2) hL (by omega)
  have hend : ¬ ((Int32.ofNat L) - 6) < nI p := by
    rw [show (Int32.ofNat L) - 6 = nI (L - 6) from pk_sub (a := L) (b := 6) (by omega)]
    exact nI_nlt (by omega) (by omega)
  unfold f_L_law_1000000_l18
  rw [if_neg hend, g0, pr_sb, if_neg (show ¬ xs p &&& 31 = 0 by rw [hk]; decide), if_neg (show ¬ xs p &&& 31 = 1 by rw [hk]; decide), if_neg (show ¬ xs p &&& 31 = 2 by rw [hk]; decide), if_neg (show ¬ xs p &&& 31 = 3 by rw [hk]; decide), if_neg (show ¬ xs p &&& 31 = 4 by rw [hk]; decide), if_neg (show ¬ xs p &&& 31 = 5 by rw [hk]; decide), if_neg (show ¬ xs p &&& 31 = 6 by rw [hk]; decide), if_neg (show ¬ xs p &&& 31 = 7 by rw [hk]; decide), if_neg (show ¬ xs p &&& 31 = 8 by rw [hk]; decide), if_neg (show ¬ xs p &&& 31 = 9 by rw [hk]; decide), if_neg (show ¬ xs p &&& 31 = 10 by rw [hk]; decide), if_neg (show ¬ xs p &&& 31 = 11 by rw [hk]; decide), if_neg (show ¬ xs p &&& 31 = 12 by rw [hk]; decide), if_neg (show ¬ xs p &&& 31 = 13 by rw [hk]; decide), if_neg (show ¬ xs p &&& 31 = 14 by rw [hk]; decide), if_pos hk, g1, pr_sb, g2, pr_sb, pr_layC (iv_LC h), pr_sb, e1, cq_b3, pr_sb, pr_sb, pr_layM (iv_LM hi), pr_sb, e2, pr_sb, if_pos ((lg_eq v v).mpr rfl), show nI p + 6 = nI (p + 6) from nI_add p 6]
set_option maxHeartbeats 4000000 in
theorem lw_16 (hL : L ≤ 3072) (hp : p + 6 ≤ L) (h : iv n S I R) (hk : xs p &&& 31 = 16) : lw_T L xs n S I J R p := by
  obtain ⟨v, I1, R1, e1, e2, hi⟩ := ck_found h (xs (p + 1))
  refine ⟨n, S, I1, J, R1, ?_, hi⟩
  have g0 : rk_srd L xs (nI p) = some (xs p) := by
    have := lw_srd (k := 0) (xs := xs) hL (by omega : p + 0 < L)
    rwa [nI_add, Nat.add_zero] at this
  have g1 : rk_srd L xs (nI p + 1) = some (xs (p + 1)) := lw_srd (k := 1) hL (by omega)
  have hend : ¬ ((Int32.ofNat L) - 6) < nI p := by
    rw [show (Int32.ofNat L) - 6 = nI (L - 6) from pk_sub (a := L) (b := 6) (by omega)]
    exact nI_nlt (by omega) (by omega)
  unfold f_L_law_1000000_l18
  rw [if_neg hend, g0, pr_sb, if_neg (show ¬ xs p &&& 31 = 0 by rw [hk]; decide), if_neg (show ¬ xs p &&& 31 = 1 by rw [hk]; decide), if_neg (show ¬ xs p &&& 31 = 2 by rw [hk]; decide), if_neg (show ¬ xs p &&& 31 = 3 by rw [hk]; decide), if_neg (show ¬ xs p &&& 31 = 4 by rw [hk]; decide), if_neg (show ¬ xs p &&& 31 = 5 by rw [hk]; decide), if_neg (show ¬ xs p &&& 31 = 6 by rw [hk]; decide), if_neg (show ¬ xs p &&& 31 = 7 by rw [hk]; decide), if_neg (show ¬ xs p &&& 31 = 8 by rw [hk]; decide), if_neg (show ¬ xs p &&& 31 = 9 by rw [hk]; decide), if_neg (show ¬ xs p &&& 31 = 10 by rw [hk]; decide), if_neg (show ¬ xs p &&& 31 = 11 by rw [hk]; decide), if_neg (show ¬ xs p &&& 31 = 12 by rw [hk]; decide), if_neg (show ¬ xs p &&& 31 = 13 by rw [hk]; decide), if_neg (show ¬ xs p &&& 31 = 14 by rw [hk]; decide), if_neg (show ¬ xs p &&& 31 = 15 by rw [hk]; decide), if_pos hk, g1, pr_sb, pr_layC (iv_LC h), pr_sb, e1, cq_b3, pr_sb, pr_layM (iv_LM hi), pr_sb, e2, pr_sb, if_pos rfl, show nI p + 6 = nI (p + 6) from nI_add p 6]
set_option maxHeartbeats 4000000 in
theorem lw_17 (hL : L ≤ 3072) (hp : p + 6 ≤ L) (h : iv n S I R) (hk : xs p &&& 31 = 17) : lw_T L xs n S I J R p := by
  obtain ⟨v, I1, I2, J2, e1, e2, hi⟩ := ck_loses h J (xs (p + 1)) (xs (p + 2))
  refine ⟨n, S, I2, J2, R, ?_, hi⟩
  have g0 : rk_srd L xs (nI p) = some (xs p) := by
    have := lw_srd (k := 0) (xs := xs) hL (by omega : p + 0 < L)
    rwa [nI_add, Nat.add_zero] at this
  have g1 : rk_srd L xs (nI p + 1) = some (xs (p + 1)) := lw_srd (k := 1) hL (by omega)
  have g2 : rk_srd L xs (nI p + 2) = some (xs (p + 2)) := lw_srd (k := 2) hL (by omega)
  have hend : ¬ ((Int32.ofNat L) - 6) < nI p := by
    rw [show (Int32.ofNat L) - 6 = nI (L - 6) from pk_sub (a := L) (b := 6) (by omega)]
    exact nI_nlt (by omega) (by omega)
  unfold f_L_law_1000000_l18
  rw [if_neg hend, g0, pr_sb, if_neg (show ¬ xs p &&& 31 = 0 by rw [hk]; decide), if_neg (show ¬ xs p &&& 31 = 1 by rw [hk]; decide), if_neg (show ¬ xs p &&& 31 = 2 by rw [hk]; decide), if_neg (show ¬ xs p &&& 31 = 3 by rw [hk]; decide), if_neg (show ¬ xs p &&& 31 = 4 by rw [hk]; decide), if_neg (show ¬ xs p &&& 31 = 5 by rw [hk]; decide), if_neg (show ¬ xs p &&& 31 = 6 by rw [hk]; decide), if_neg (show ¬ xs p &&& 31 = 7 by rw [hk]; decide), if_neg (show ¬ xs p &&& 31 = 8 by rw [hk]; decide), if_neg (show ¬ xs p &&& 31 = 9 by rw [hk]; decide), if_neg (show ¬ xs p &&& 31 = 10 by rw [hk]; decide), if_neg (show ¬ xs p &&& 31 = 11 by rw [hk]; decide), if_neg (show ¬ xs p &&& 31 = 12 by rw [hk]; decide), if_neg (show ¬ xs p &&& 31 = 13 by rw [hk]; decide), if_neg (show ¬ xs p &&& 31 = 14 by rw [hk]; decide), if_neg (show ¬ xs p &&& 31 = 15 by rw [hk]; decide), if_neg (show ¬ xs p &&& 31 = 16 by rw [hk]; decide), if_pos hk, g1, pr_sb, g2, pr_sb, pr_layC (iv_LC h), pr_sb, e1, cq_b2, pr_sb, pr_sb, pr_layM (iv_LM hi), pr_sb, e2, cq_b3, if_pos ((lg_eq v v).mpr rfl), show nI p + 6 = nI (p + 6) from nI_add p 6]
set_option maxHeartbeats 4000000 in
theorem lw_18 (hL : L ≤ 3072) (hp : p + 6 ≤ L) (h : iv n S I R) (hk : xs p &&& 31 = 18) : lw_T L xs n S I J R p := by
  obtain ⟨v, I1, I2, J2, e1, e2, hi⟩ := ck_stops h J (xs (p + 1)) (xs (p + 2))
  refine ⟨n, S, I2, J2, R, ?_, hi⟩
  have g0 : rk_srd L xs (nI p) = some (xs p) := by
    have := lw_srd (k := 0) (xs := xs) hL (by omega : p + 0 < L)
    rwa [nI_add, Nat.add_zero] at this
  have g1 : rk_srd L xs (nI p + 1) = some (xs (p + 1)) := lw_srd (k := 1) hL (by omega)
  have g2 : rk_srd L xs (nI p + 2) = some (xs (p + 2)) := lw_srd (k := 2) hL (by omega)
  have hend : ¬ ((Int32.ofNat L) - 6) < nI p := by
    rw [show (Int32.ofNat L) - 6 = nI (L - 6) from pk_sub (a := L) (b := 6) (by omega)]
    exact nI_nlt (by omega) (by omega)
  unfold f_L_law_1000000_l18
  rw [if_neg hend, g0, pr_sb, if_neg (show ¬ xs p &&& 31 = 0 by rw [hk]; decide), if_neg (show ¬ xs p &&& 31 = 1 by rw [hk]; decide), if_neg (show ¬ xs p &&& 31 = 2 by rw [hk]; decide), if_neg (show ¬ xs p &&& 31 = 3 by rw [hk]; decide), if_neg (show ¬ xs p &&& 31 = 4 by rw [hk]; decide), if_neg (show ¬ xs p &&& 31 = 5 by rw [hk]; decide), if_neg (show ¬ xs p &&& 31 = 6 by rw [hk]; decide), if_neg (show ¬ xs p &&& 31 = 7 by rw [hk]; decide), if_neg (show ¬ xs p &&& 31 = 8 by rw [hk]; decide), if_neg (show ¬ xs p &&& 31 = 9 by rw [hk]; decide), if_neg (show ¬ xs p &&& 31 = 10 by rw [hk]; decide), if_neg (show ¬ xs p &&& 31 = 11 by rw [hk]; decide), if_neg (show ¬ xs p &&& 31 = 12 by rw [hk]; decide), if_neg (show ¬ xs p &&& 31 = 13 by rw [hk]; decide), if_neg (show ¬ xs p &&& 31 = 14 by rw [hk]; decide), if_neg (show ¬ xs p &&& 31 = 15 by rw [hk]; decide), if_neg (show ¬ xs p &&& 31 = 16 by rw [hk]; decide), if_neg (show ¬ xs p &&& 31 = 17 by rw [hk]; decide), if_pos hk, g1, pr_sb, g2, pr_sb, pr_layC (iv_LC h), pr_sb, e1, cq_b2, pr_sb, pr_sb, pr_layM (iv_LM hi), pr_sb, e2, cq_b3, if_pos rfl, show nI p + 6 = nI (p + 6) from nI_add p 6]
set_option maxHeartbeats 4000000 in
theorem lw_19 (hL : L ≤ 3072) (hp : p + 6 ≤ L) (h : iv n S I R) (hk : xs p &&& 31 = 19) : lw_T L xs n S I J R p := by
  obtain ⟨v, e1, e2⟩ := ck_two h (xs (p + 1)) (xs (p + 2)) (xs (p + 3))
  have hi := h
  refine ⟨n, S, I, J, R, ?_, hi⟩
  have g0 : rk_srd L xs (nI p) = some (xs p) := by
    have := lw_srd (k := 0) (xs := xs) hL (by omega : p + 0 < L)
    rwa [nI_add, Nat.add_zero] at this
  have g1 : rk_srd L xs (nI p + 1) = some (xs (p + 1)) := lw_srd (k := 1) hL (by omega)
  have g2 : rk_srd L xs (nI p + 2) = some (xs (p + 2)) := lw_srd (k := 2) hL (by omega)
  have g3 : rk_srd L xs (nI p + 3) = some (xs (p + 3)) := lw_srd (k := 3) hL (by omega)
  have hend : ¬ ((Int32.ofNat L) - 6) < nI p := by
    rw [show (Int32.ofNat L) - 6 = nI (L - 6) from pk_sub (a := L) (b := 6) (by omega)]
    exact nI_nlt (by omega) (by omega)
  unfold f_L_law_1000000_l18
  rw [if_neg hend, g0, pr_sb, if_neg (show ¬ xs p &&& 31 = 0 by rw [hk]; decide), if_neg (show ¬ xs p &&& 31 = 1 by rw [hk]; decide), if_neg (show ¬ xs p &&& 31 = 2 by rw [hk]; decide), if_neg (show ¬ xs p &&& 31 = 3 by rw [hk]; decide), if_neg (show ¬ xs p &&& 31 = 4 by rw [hk]; decide), if_neg (show ¬ xs p &&& 31 = 5 by rw [hk]; decide), if_neg (show ¬ xs p &&& 31 = 6 by rw [hk]; decide), if_neg (show ¬ xs p &&& 31 = 7 by rw [hk]; decide), if_neg (show ¬ xs p &&& 31 = 8 by rw [hk]; decide), if_neg (show ¬ xs p &&& 31 = 9 by rw [hk]; decide), if_neg (show ¬ xs p &&& 31 = 10 by rw [hk]; decide), if_neg (show ¬ xs p &&& 31 = 11 by rw [hk]; decide), if_neg (show ¬ xs p &&& 31 = 12 by rw [hk]; decide), if_neg (show ¬ xs p &&& 31 = 13 by rw [hk]; decide), if_neg (show ¬ xs p &&& 31 = 14 by rw [hk]; decide), if_neg (show ¬ xs p &&& 31 = 15 by rw [hk]; decide), if_neg (show ¬ xs p &&& 31 = 16 by rw [hk]; decide), if_neg (show ¬ xs p &&& 31 = 17 by rw [hk]; decide), if_neg (show ¬ xs p &&& 31 = 18 by rw [hk]; decide), if_pos hk, g1, pr_sb, g2, pr_sb, g3, pr_sb, pr_layC (iv_LC h), pr_sb, e1, pr_sb, pr_sb, pr_sb, pr_sb, pr_layM (iv_LM hi), pr_sb, e2, pr_sb, if_pos rfl, show nI p + 6 = nI (p + 6) from nI_add p 6]
set_option maxHeartbeats 4000000 in
theorem lw_20 (hL : L ≤ 3072) (hp : p + 6 ≤ L) (h : iv n S I R) (hk : xs p &&& 31 = 20) : lw_T L xs n S I J R p := by
  obtain ⟨v, I1, R1, I2, e1, e2, hi⟩ := ck_hangs h (xs (p + 1)) (xs (p + 2)) (xs (p + 3))
  refine ⟨n, S, I2, J, R1, ?_, hi⟩
  have g0 : rk_srd L xs (nI p) = some (xs p) := by
    have := lw_srd (k := 0) (xs := xs) hL (by omega : p + 0 < L)
    rwa [nI_add, Nat.add_zero] at this
  have g1 : rk_srd L xs (nI p + 1) = some (xs (p + 1)) := lw_srd (k := 1) hL (by omega)
  have g2 : rk_srd L xs (nI p + 2) = some (xs (p + 2)) := lw_srd (k := 2) hL (by omega)
  have g3 : rk_srd L xs (nI p + 3) = some (xs (p + 3)) := lw_srd (k := 3) hL (by omega)
  have hend : ¬ ((Int32.ofNat L) - 6) < nI p := by
    rw [show (Int32.ofNat L) - 6 = nI (L - 6) from pk_sub (a := L) (b := 6) (by omega)]
    exact nI_nlt (by omega) (by omega)
  unfold f_L_law_1000000_l18
  rw [if_neg hend, g0, pr_sb, if_neg (show ¬ xs p &&& 31 = 0 by rw [hk]; decide), if_neg (show ¬ xs p &&& 31 = 1 by rw [hk]; decide), if_neg (show ¬ xs p &&& 31 = 2 by rw [hk]; decide), if_neg (show ¬ xs p &&& 31 = 3 by rw [hk]; decide), if_neg (show ¬ xs p &&& 31 = 4 by rw [hk]; decide), if_neg (show ¬ xs p &&& 31 = 5 by rw [hk]; decide), if_neg (show ¬ xs p &&& 31 = 6 by rw [hk]; decide), if_neg (show ¬ xs p &&& 31 = 7 by rw [hk]; decide), if_neg (show ¬ xs p &&& 31 = 8 by rw [hk]; decide), if_neg (show ¬ xs p &&& 31 = 9 by rw [hk]; decide), if_neg (show ¬ xs p &&& 31 = 10 by rw [hk]; decide), if_neg (show ¬ xs p &&& 31 = 11 by rw [hk]; decide), if_neg (show ¬ xs p &&& 31 = 12 by rw [hk]; decide), if_neg (show ¬ xs p &&& 31 = 13 by rw [hk]; decide), if_neg (show ¬ xs p &&& 31 = 14 by rw [hk]; decide), if_neg (show ¬ xs p &&& 31 = 15 by rw [hk]; decide), if_neg (show ¬ xs p &&& 31 = 16 by rw [hk]; decide), if_neg (show ¬ xs p &&& 31 = 17 by rw [hk]; decide), if_neg (show ¬ xs p &&& 31 = 18 by rw [hk]; decide), if_neg (show ¬ xs p &&& 31 = 19 by rw [hk]; decide), if_pos hk, g1, pr_sb, g2, pr_sb, g3, pr_sb, pr_layC (iv_LC h), pr_sb, e1, cq_b3, pr_sb, pr_sb, pr_sb, pr_layM (iv_LM hi), pr_sb, e2, cq_b2, if_pos rfl, show nI p + 6 = nI (p + 6) from nI_add p 6]
set_option maxHeartbeats 4000000 in
theorem lw_21 (hL : L ≤ 3072) (hp : p + 6 ≤ L) (h : iv n S I R) (hk : xs p &&& 31 = 21) : lw_T L xs n S I J R p := by
  obtain ⟨v, I1, R1, I2, e1, e2, hi⟩ := ck_moves h (xs (p + 1)) (xs (p + 2)) (xs (p + 3))
  refine ⟨n, S, I2, J, R1, ?_, hi⟩
  have g0 : rk_srd L xs (nI p) = some (xs p) := by
    have := lw_srd (k := 0) (xs := xs) hL (by omega : p + 0 < L)
    rwa [nI_add, Nat.add_zero] at this
  have g1 : rk_srd L xs (nI p + 1) = some (xs (p + 1)) := lw_srd (k := 1) hL (by omega)
  have g2 : rk_srd L xs (nI p + 2) = some (xs (p + 2)) := lw_srd (k := 2) hL (by omega)
  have g3 : rk_srd L xs (nI p + 3) = some (xs (p + 3)) := lw_srd (k := 3) hL (by omega)
  have hend : ¬ ((Int32.ofNat L) - 6) < nI p := by
    rw [show (Int32.ofNat L) - 6 = nI (L - 6) from pk_sub (a := L) (b := 6) (by omega)]
    exact nI_nlt (by omega) (by omega)
  unfold f_L_law_1000000_l18
  rw [if_neg hend, g0, pr_sb, if_neg (show ¬ xs p &&& 31 = 0 by rw [hk]; decide), if_neg (show ¬ xs p &&& 31 = 1 by rw [hk]; decide), if_neg (show ¬ xs p &&& 31 = 2 by rw [hk]; decide), if_neg (show ¬ xs p &&& 31 = 3 by rw [hk]; decide), if_neg (show ¬ xs p &&& 31 = 4 by rw [hk]; decide), if_neg (show ¬ xs p &&& 31 = 5 by rw [hk]; decide), if_neg (show ¬ xs p &&& 31 = 6 by rw [hk]; decide), if_neg (show ¬ xs p &&& 31 = 7 by rw [hk]; decide), if_neg (show ¬ xs p &&& 31 = 8 by rw [hk]; decide), if_neg (show ¬ xs p &&& 31 = 9 by rw [hk]; decide), if_neg (show ¬ xs p &&& 31 = 10 by rw [hk]; decide), if_neg (show ¬ xs p &&& 31 = 11 by rw [hk]; decide), if_neg (show ¬ xs p &&& 31 = 12 by rw [hk]; decide), if_neg (show ¬ xs p &&& 31 = 13 by rw [hk]; decide), if_neg (show ¬ xs p &&& 31 = 14 by rw [hk]; decide), if_neg (show ¬ xs p &&& 31 = 15 by rw [hk]; decide), if_neg (show ¬ xs p &&& 31 = 16 by rw [hk]; decide), if_neg (show ¬ xs p &&& 31 = 17 by rw [hk]; decide), if_neg (show ¬ xs p &&& 31 = 18 by rw [hk]; decide), if_neg (show ¬ xs p &&& 31 = 19 by rw [hk]; decide), if_neg (show ¬ xs p &&& 31 = 20 by rw [hk]; decide), if_pos hk, g1, pr_sb, g2, pr_sb, g3, pr_sb, pr_layC (iv_LC h), pr_sb, e1, cq_b3, pr_sb, pr_sb, pr_sb, pr_layM (iv_LM hi), pr_sb, e2, cq_b2, if_pos ((lg_eq v v).mpr rfl), show nI p + 6 = nI (p + 6) from nI_add p 6]
set_option maxHeartbeats 4000000 in
theorem lw_22 (hL : L ≤ 3072) (hp : p + 6 ≤ L) (h : iv n S I R) (hk : xs p &&& 31 = 22) : lw_T L xs n S I J R p := by
  obtain ⟨v, I1, R1, I2, e1, e2, hi⟩ := ck_telegraph h (xs (p + 1)) (xs (p + 2))
  refine ⟨n, S, I2, J, R1, ?_, hi⟩
  have g0 : rk_srd L xs (nI p) = some (xs p) := by
    have := lw_srd (k := 0) (xs := xs) hL (by omega : p + 0 < L)
    rwa [nI_add, Nat.add_zero] at this
  have g1 : rk_srd L xs (nI p + 1) = some (xs (p + 1)) := lw_srd (k := 1) hL (by omega)
  have g2 : rk_srd L xs (nI p + 2) = some (xs (p + 2)) := lw_srd (k := 2) hL (by omega)
  have hend : ¬ ((Int32.ofNat L) - 6) < nI p := by
    rw [show (Int32.ofNat L) - 6 = nI (L - 6) from pk_sub (a := L) (b := 6) (by omega)]
    exact nI_nlt (by omega) (by omega)
  unfold f_L_law_1000000_l18
  rw [if_neg hend, g0, pr_sb, if_neg (show ¬ xs p &&& 31 = 0 by rw [hk]; decide), if_neg (show ¬ xs p &&& 31 = 1 by rw [hk]; decide), if_neg (show ¬ xs p &&& 31 = 2 by rw [hk]; decide), if_neg (show ¬ xs p &&& 31 = 3 by rw [hk]; decide), if_neg (show ¬ xs p &&& 31 = 4 by rw [hk]; decide), if_neg (show ¬ xs p &&& 31 = 5 by rw [hk]; decide), if_neg (show ¬ xs p &&& 31 = 6 by rw [hk]; decide), if_neg (show ¬ xs p &&& 31 = 7 by rw [hk]; decide), if_neg (show ¬ xs p &&& 31 = 8 by rw [hk]; decide), if_neg (show ¬ xs p &&& 31 = 9 by rw [hk]; decide), if_neg (show ¬ xs p &&& 31 = 10 by rw [hk]; decide), if_neg (show ¬ xs p &&& 31 = 11 by rw [hk]; decide), if_neg (show ¬ xs p &&& 31 = 12 by rw [hk]; decide), if_neg (show ¬ xs p &&& 31 = 13 by rw [hk]; decide), if_neg (show ¬ xs p &&& 31 = 14 by rw [hk]; decide), if_neg (show ¬ xs p &&& 31 = 15 by rw [hk]; decide), if_neg (show ¬ xs p &&& 31 = 16 by rw [hk]; decide), if_neg (show ¬ xs p &&& 31 = 17 by rw [hk]; decide), if_neg (show ¬ xs p &&& 31 = 18 by rw [hk]; decide), if_neg (show ¬ xs p &&& 31 = 19 by rw [hk]; decide), if_neg (show ¬ xs p &&& 31 = 20 by rw [hk]; decide), if_neg (show ¬ xs p &&& 31 = 21 by rw [hk]; decide), if_pos hk, g1, pr_sb, g2, pr_sb, pr_layC (iv_LC h), pr_sb, e1, cq_b3, pr_sb, pr_sb, pr_layM (iv_LM hi), pr_sb, e2, cq_b2, if_pos rfl, show nI p + 6 = nI (p + 6) from nI_add p 6]
set_option maxHeartbeats 4000000 in
theorem lw_23 (hL : L ≤ 3072) (hp : p + 6 ≤ L) (h : iv n S I R) (hk : xs p &&& 31 = 23) : lw_T L xs n S I J R p := by
  obtain ⟨v, I1, I2, e1, e2, hi⟩ := ck_image h
  refine ⟨n, S, I2, J, R, ?_, hi⟩
  have g0 : rk_srd L xs (nI p) = some (xs p) := by
    have := lw_srd (k := 0) (xs := xs) hL (by omega : p + 0 < L)
    rwa [nI_add, Nat.add_zero] at this
  have hend : ¬ ((Int32.ofNat L) - 6) < nI p := by
    rw [show (Int32.ofNat L) - 6 = nI (L - 6) from pk_sub (a := L) (b := 6) (by omega)]
    exact nI_nlt (by omega) (by omega)
  unfold f_L_law_1000000_l18
  rw [if_neg hend, g0, pr_sb, if_neg (show ¬ xs p &&& 31 = 0 by rw [hk]; decide), if_neg (show ¬ xs p &&& 31 = 1 by rw [hk]; decide), if_neg (show ¬ xs p &&& 31 = 2 by rw [hk]; decide), if_neg (show ¬ xs p &&& 31 = 3 by rw [hk]; decide), if_neg (show ¬ xs p &&& 31 = 4 by rw [hk]; decide), if_neg (show ¬ xs p &&& 31 = 5 by rw [hk]; decide), if_neg (show ¬ xs p &&& 31 = 6 by rw [hk]; decide), if_neg (show ¬ xs p &&& 31 = 7 by rw [hk]; decide), if_neg (show ¬ xs p &&& 31 = 8 by rw [hk]; decide), if_neg (show ¬ xs p &&& 31 = 9 by rw [hk]; decide), if_neg (show ¬ xs p &&& 31 = 10 by rw [hk]; decide), if_neg (show ¬ xs p &&& 31 = 11 by rw [hk]; decide), if_neg (show ¬ xs p &&& 31 = 12 by rw [hk]; decide), if_neg (show ¬ xs p &&& 31 = 13 by rw [hk]; decide), if_neg (show ¬ xs p &&& 31 = 14 by rw [hk]; decide), if_neg (show ¬ xs p &&& 31 = 15 by rw [hk]; decide), if_neg (show ¬ xs p &&& 31 = 16 by rw [hk]; decide), if_neg (show ¬ xs p &&& 31 = 17 by rw [hk]; decide), if_neg (show ¬ xs p &&& 31 = 18 by rw [hk]; decide), if_neg (show ¬ xs p &&& 31 = 19 by rw [hk]; decide), if_neg (show ¬ xs p &&& 31 = 20 by rw [hk]; decide), if_neg (show ¬ xs p &&& 31 = 21 by rw [hk]; decide), if_neg (show ¬ xs p &&& 31 = 22 by rw [hk]; decide), if_pos hk, pr_layC (iv_LC h), pr_sb, e1, cq_b2, pr_layM (iv_LM hi), pr_sb, e2, cq_b2, if_pos rfl, show nI p + 6 = nI (p + 6) from nI_add p 6]
set_option maxHeartbeats 4000000 in
theorem lw_24 (hL : L ≤ 3072) (hp : p + 6 ≤ L) (h : iv n S I R) (hk : xs p &&& 31 = 24) : lw_T L xs n S I J R p := by
  obtain ⟨v, I1, I2, e1, e2, hi⟩ := ck_back h
  refine ⟨n, S, I2, J, R, ?_, hi⟩
  have g0 : rk_srd L xs (nI p) = some (xs p) := by
    have := lw_srd (k := 0) (xs := xs) hL (by omega : p + 0 < L)
    rwa [nI_add, Nat.add_zero] at this
  have hend : ¬ ((Int32.ofNat L) - 6) < nI p := by
    rw [show (Int32.ofNat L) - 6 = nI (L - 6) from pk_sub (a := L) (b := 6) (by omega)]
    exact nI_nlt (by omega) (by omega)
  unfold f_L_law_1000000_l18
  rw [if_neg hend, g0, pr_sb, if_neg (show ¬ xs p &&& 31 = 0 by rw [hk]; decide), if_neg (show ¬ xs p &&& 31 = 1 by rw [hk]; decide), if_neg (show ¬ xs p &&& 31 = 2 by rw [hk]; decide), if_neg (show ¬ xs p &&& 31 = 3 by rw [hk]; decide), if_neg (show ¬ xs p &&& 31 = 4 by rw [hk]; decide), if_neg (show ¬ xs p &&& 31 = 5 by rw [hk]; decide), if_neg (show ¬ xs p &&& 31 = 6 by rw [hk]; decide), if_neg (show ¬ xs p &&& 31 = 7 by rw [hk]; decide), if_neg (show ¬ xs p &&& 31 = 8 by rw [hk]; decide), if_neg (show ¬ xs p &&& 31 = 9 by rw [hk]; decide), if_neg (show ¬ xs p &&& 31 = 10 by rw [hk]; decide), if_neg (show ¬ xs p &&& 31 = 11 by rw [hk]; decide), if_neg (show ¬ xs p &&& 31 = 12 by rw [hk]; decide), if_neg (show ¬ xs p &&& 31 = 13 by rw [hk]; decide), if_neg (show ¬ xs p &&& 31 = 14 by rw [hk]; decide), if_neg (show ¬ xs p &&& 31 = 15 by rw [hk]; decide), if_neg (show ¬ xs p &&& 31 = 16 by rw [hk]; decide), if_neg (show ¬ xs p &&& 31 = 17 by rw [hk]; decide), if_neg (show ¬ xs p &&& 31 = 18 by rw [hk]; decide), if_neg (show ¬ xs p &&& 31 = 19 by rw [hk]; decide), if_neg (show ¬ xs p &&& 31 = 20 by rw [hk]; decide), if_neg (show ¬ xs p &&& 31 = 21 by rw [hk]; decide), if_neg (show ¬ xs p &&& 31 = 22 by rw [hk]; decide), if_neg (show ¬ xs p &&& 31 = 23 by rw [hk]; decide), if_pos hk, pr_layC (iv_LC h), pr_sb, e1, cq_b2, pr_layM (iv_LM hi), pr_sb, e2, cq_b2, if_pos rfl, show nI p + 6 = nI (p + 6) from nI_add p 6]
set_option maxHeartbeats 4000000 in
theorem lw_25 (hL : L ≤ 3072) (hp : p + 6 ≤ L) (h : iv n S I R) (hk : xs p &&& 31 = 25) : lw_T L xs n S I J R p := by
  obtain ⟨v, e1, e2⟩ := ck_count h (xs (p + 1))
  have hi := h
  refine ⟨n, S, I, J, R, ?_, hi⟩
  have g0 : rk_srd L xs (nI p) = some (xs p) := by
    have := lw_srd (k := 0) (xs := xs) hL (by omega : p + 0 < L)
    rwa [nI_add, Nat.add_zero] at this
  have g1 : rk_srd L xs (nI p + 1) = some (xs (p + 1)) := lw_srd (k := 1) hL (by omega)
  have hend : ¬ ((Int32.ofNat L) - 6) < nI p := by
    rw [show (Int32.ofNat L) - 6 = nI (L - 6) from pk_sub (a := L) (b := 6) (by omega)]
    exact nI_nlt (by omega) (by omega)
  unfold f_L_law_1000000_l18
  rw [if_neg hend, g0, pr_sb, if_neg (show ¬ xs p &&& 31 = 0 by rw [hk]; decide), if_neg (show ¬ xs p &&& 31 = 1 by rw [hk]; decide), if_neg (show ¬ xs p &&& 31 = 2 by rw [hk]; decide), if_neg (show ¬ xs p &&& 31 = 3 by rw [hk]; decide), if_neg (show ¬ xs p &&& 31 = 4 by rw [hk]; decide), if_neg (show ¬ xs p &&& 31 = 5 by rw [hk]; decide), if_neg (show ¬ xs p &&& 31 = 6 by rw [hk]; decide), if_neg (show ¬ xs p &&& 31 = 7 by rw [hk]; decide), if_neg (show ¬ xs p &&& 31 = 8 by rw [hk]; decide), if_neg (show ¬ xs p &&& 31 = 9 by rw [hk]; decide), if_neg (show ¬ xs p &&& 31 = 10 by rw [hk]; decide), if_neg (show ¬ xs p &&& 31 = 11 by rw [hk]; decide), if_neg (show ¬ xs p &&& 31 = 12 by rw [hk]; decide), if_neg (show ¬ xs p &&& 31 = 13 by rw [hk]; decide), if_neg (show ¬ xs p &&& 31 = 14 by rw [hk]; decide), if_neg (show ¬ xs p &&& 31 = 15 by rw [hk]; decide), if_neg (show ¬ xs p &&& 31 = 16 by rw [hk]; decide), if_neg (show ¬ xs p &&& 31 = 17 by rw [hk]; decide), if_neg (show ¬ xs p &&& 31 = 18 by rw [hk]; decide), if_neg (show ¬ xs p &&& 31 = 19 by rw [hk]; decide), if_neg (show ¬ xs p &&& 31 = 20 by rw [hk]; decide), if_neg (show ¬ xs p &&& 31 = 21 by rw [hk]; decide), if_neg (show ¬ xs p &&& 31 = 22 by rw [hk]; decide), if_neg (show ¬ xs p &&& 31 = 23 by rw [hk]; decide), if_neg (show ¬ xs p &&& 31 = 24 by rw [hk]; decide), if_pos hk, g1, pr_sb, pr_layC (iv_LC h), pr_sb, e1, pr_sb, pr_sb, pr_layM (iv_LM hi), pr_sb, e2, pr_sb, if_pos rfl, show nI p + 6 = nI (p + 6) from nI_add p 6]
set_option maxHeartbeats 4000000 in
theorem lw_26 (hL : L ≤ 3072) (hp : p + 6 ≤ L) (h : iv n S I R) (hk : xs p &&& 31 = 26) : lw_T L xs n S I J R p := by
  obtain ⟨v, I1, I2, e1, e2, hi⟩ := ck_sheet h (xs (p + 1)) (xs (p + 2)) (xs (p + 3))
  refine ⟨n, S, I2, J, R, ?_, hi⟩
  have g0 : rk_srd L xs (nI p) = some (xs p) := by
    have := lw_srd (k := 0) (xs := xs) hL (by omega : p + 0 < L)
    rwa [nI_add, Nat.add_zero] at this
  have g1 : rk_srd L xs (nI p + 1) = some (xs (p + 1)) := lw_srd (k := 1) hL (by omega)
  have g2 : rk_srd L xs (nI p + 2) = some (xs (p + 2)) := lw_srd (k := 2) hL (by omega)
  have g3 : rk_srd L xs (nI p + 3) = some (xs (p + 3)) := lw_srd (k := 3) hL (by omega)
  have hend : ¬ ((Int32.ofNat L) - 6) < nI p := by
    rw [show (Int32.ofNat L) - 6 = nI (L - 6) from pk_sub (a := L) (b := 6) (by omega)]
    exact nI_nlt (by omega) (by omega)
  unfold f_L_law_1000000_l18
  rw [if_neg hend, g0, pr_sb, if_neg (show ¬ xs p &&& 31 = 0 by rw [hk]; decide), if_neg (show ¬ xs p &&& 31 = 1 by rw [hk]; decide), if_neg (show ¬ xs p &&& 31 = 2 by rw [hk]; decide), if_neg (show ¬ xs p &&& 31 = 3 by rw [hk]; decide), if_neg (show ¬ xs p &&& 31 = 4 by rw [hk]; decide), if_neg (show ¬ xs p &&& 31 = 5 by rw [hk]; decide), if_neg (show ¬ xs p &&& 31 = 6 by rw [hk]; decide), if_neg (show ¬ xs p &&& 31 = 7 by rw [hk]; decide), if_neg (show ¬ xs p &&& 31 = 8 by rw [hk]; decide), if_neg (show ¬ xs p &&& 31 = 9 by rw [hk]; decide), if_neg (show ¬ xs p &&& 31 = 10 by rw [hk]; decide), if_neg (show ¬ xs p &&& 31 = 11 by rw [hk]; decide), if_neg (show ¬ xs p &&& 31 = 12 by rw [hk]; decide), if_neg (show ¬ xs p &&& 31 = 13 by rw [hk]; decide), if_neg (show ¬ xs p &&& 31 = 14 by rw [hk]; decide), if_neg (show ¬ xs p &&& 31 = 15 by rw [hk]; decide), if_neg (show ¬ xs p &&& 31 = 16 by rw [hk]; decide), if_neg (show ¬ xs p &&& 31 = 17 by rw [hk]; decide), if_neg (show ¬ xs p &&& 31 = 18 by rw [hk]; decide), if_neg (show ¬ xs p &&& 31 = 19 by rw [hk]; decide), if_neg (show ¬ xs p &&& 31 = 20 by rw [hk]; decide), if_neg (show ¬ xs p &&& 31 = 21 by rw [hk]; decide), if_neg (show ¬ xs p &&& 31 = 22 by rw [hk]; decide), if_neg (show ¬ xs p &&& 31 = 23 by rw [hk]; decide), if_neg (show ¬ xs p &&& 31 = 24 by rw [hk]; decide), if_neg (show ¬ xs p &&& 31 = 25 by rw [hk]; decide), if_pos hk, g1, pr_sb, g2, pr_sb, g3, pr_sb, pr_layC (iv_LC h), pr_sb, e1, cq_b2, pr_sb, pr_sb, pr_sb, pr_layM (iv_LM hi), pr_sb, e2, cq_b2, if_pos rfl, show nI p + 6 = nI (p + 6) from nI_add p 6]
set_option maxHeartbeats 4000000 in
theorem lw_27 (hL : L ≤ 3072) (hp : p + 6 ≤ L) (h : iv n S I R) (hk : xs p &&& 31 = 27) : lw_T L xs n S I J R p := by
  obtain ⟨v, I1, I2, e1, e2, hi⟩ := ck_cell h (xs (p + 1)) (xs (p + 2)) (xs (p + 3))
  refine ⟨n, S, I2, J, R, ?_, hi⟩
  have g0 : rk_srd L xs (nI p) = some (xs p) := by
    have := lw_srd (k := 0) (xs := xs) hL (by omega : p + 0 < L)
    rwa [nI_add, Nat.add_zero] at this
  have g1 : rk_srd L xs (nI p + 1) = some (xs (p + 1)) := lw_srd (k := 1) hL (by omega)
  have g2 : rk_srd L xs (nI p + 2) = some (xs (p + 2)) := lw_srd (k := 2) hL (by omega)
  have g3 : rk_srd L xs (nI p + 3) = some (xs (p + 3)) := lw_srd (k := 3) hL (by omega)
  have hend : ¬ ((Int32.ofNat L) - 6) < nI p := by
    rw [show (Int32.ofNat L) - 6 = nI (L - 6) from pk_sub (a := L) (b := 6) (by omega)]
    exact nI_nlt (by omega) (by omega)
  unfold f_L_law_1000000_l18
  rw [if_neg hend, g0, pr_sb, if_neg (show ¬ xs p &&& 31 = 0 by rw [hk]; decide), if_neg (show ¬ xs p &&& 31 = 1 by rw [hk]; decide), if_neg (show ¬ xs p &&& 31 = 2 by rw [hk]; decide), if_neg (show ¬ xs p &&& 31 = 3 by rw [hk]; decide), if_neg (show ¬ xs p &&& 31 = 4 by rw [hk]; decide), if_neg (show ¬ xs p &&& 31 = 5 by rw [hk]; decide), if_neg (show ¬ xs p &&& 31 = 6 by rw [hk]; decide), if_neg (show ¬ xs p &&& 31 = 7 by rw [hk]; decide), if_neg (show ¬ xs p &&& 31 = 8 by rw [hk]; decide), if_neg (show ¬ xs p &&& 31 = 9 by rw [hk]; decide), if_neg (show ¬ xs p &&& 31 = 10 by rw [hk]; decide), if_neg (show ¬ xs p &&& 31 = 11 by rw [hk]; decide), if_neg (show ¬ xs p &&& 31 = 12 by rw [hk]; decide), if_neg (show ¬ xs p &&& 31 = 13 by rw [hk]; decide), if_neg (show ¬ xs p &&& 31 = 14 by rw [hk]; decide), if_neg (show ¬ xs p &&& 31 = 15 by rw [hk]; decide), if_neg (show ¬ xs p &&& 31 = 16 by rw [hk]; decide), if_neg (show ¬ xs p &&& 31 = 17 by rw [hk]; decide), if_neg (show ¬ xs p &&& 31 = 18 by rw [hk]; decide), if_neg (show ¬ xs p &&& 31 = 19 by rw [hk]; decide), if_neg (show ¬ xs p &&& 31 = 20 by rw [hk]; decide), if_neg (show ¬ xs p &&& 31 = 21 by rw [hk]; decide), if_neg (show ¬ xs p &&& 31 = 22 by rw [hk]; decide), if_neg (show ¬ xs p &&& 31 = 23 by rw [hk]; decide), if_neg (show ¬ xs p &&& 31 = 24 by rw [hk]; decide), if_neg (show ¬ xs p &&& 31 = 25 by rw [hk]; decide), if_neg (show ¬ xs p &&& 31 = 26 by rw [hk]; decide), if_pos hk, g1, pr_sb, g2, pr_sb, g3, pr_sb, pr_layC (iv_LC h), pr_sb, e1, cq_b2, pr_sb, pr_sb, pr_sb, pr_layM (iv_LM hi), pr_sb, e2, cq_b2, if_pos rfl, show nI p + 6 = nI (p + 6) from nI_add p 6]
set_option maxHeartbeats 4000000 in
theorem lw_28 (hL : L ≤ 3072) (hp : p + 6 ≤ L) (h : iv n S I R) (hk : xs p &&& 31 = 28) : lw_T L xs n S I J R p := by
  obtain ⟨v, I1, I2, e1, e2, hi⟩ := ck_copy h (xs (p + 1)) (xs (p + 2)) (xs (p + 3)) (xs (p + 4)) (xs (p + 5))
  refine ⟨n, S, I2, J, R, ?_, hi⟩
  have g0 : rk_srd L xs (nI p) = some (xs p) := by
    have := lw_srd (k := 0) (xs := xs) hL (by omega : p + 0 < L)
    rwa [nI_add, Nat.add_zero] at this
  have g1 : rk_srd L xs (nI p + 1) = some (xs (p + 1)) := lw_srd (k := 1) hL (by omega)
  have g2 : rk_srd L xs (nI p + 2) = some (xs (p + 2)) := lw_srd (k := 2) hL (by omega)
  have g3 : rk_srd L xs (nI p + 3) = some (xs (p + 3)) := lw_srd (k := 3) hL (by omega)
  have g4 : rk_srd L xs (nI p + 4) = some (xs (p + 4)) := lw_srd (k := 4) hL (by omega)
  have g5 : rk_srd L xs (nI p + 5) = some (xs (p + 5)) := lw_srd (k := 5) hL (by omega)
  have hend : ¬ ((Int32.ofNat L) - 6) < nI p := by
    rw [show (Int32.ofNat L) - 6 = nI (L - 6) from pk_sub (a := L) (b := 6) (by omega)]
    exact nI_nlt (by omega) (by omega)
  unfold f_L_law_1000000_l18
  rw [if_neg hend, g0, pr_sb, if_neg (show ¬ xs p &&& 31 = 0 by rw [hk]; decide), if_neg (show ¬ xs p &&& 31 = 1 by rw [hk]; decide), if_neg (show ¬ xs p &&& 31 = 2 by rw [hk]; decide), if_neg (show ¬ xs p &&& 31 = 3 by rw [hk]; decide), if_neg (show ¬ xs p &&& 31 = 4 by rw [hk]; decide), if_neg (show ¬ xs p &&& 31 = 5 by rw [hk]; decide), if_neg (show ¬ xs p &&& 31 = 6 by rw [hk]; decide), if_neg (show ¬ xs p &&& 31 = 7 by rw [hk]; decide), if_neg (show ¬ xs p &&& 31 = 8 by rw [hk]; decide), if_neg (show ¬ xs p &&& 31 = 9 by rw [hk]; decide), if_neg (show ¬ xs p &&& 31 = 10 by rw [hk]; decide), if_neg (show ¬ xs p &&& 31 = 11 by rw [hk]; decide), if_neg (show ¬ xs p &&& 31 = 12 by rw [hk]; decide), if_neg (show ¬ xs p &&& 31 = 13 by rw [hk]; decide), if_neg (show ¬ xs p &&& 31 = 14 by rw [hk]; decide), if_neg (show ¬ xs p &&& 31 = 15 by rw [hk]; decide), if_neg (show ¬ xs p &&& 31 = 16 by rw [hk]; decide), if_neg (show ¬ xs p &&& 31 = 17 by rw [hk]; decide), if_neg (show ¬ xs p &&& 31 = 18 by rw [hk]; decide), if_neg (show ¬ xs p &&& 31 = 19 by rw [hk]; decide), if_neg (show ¬ xs p &&& 31 = 20 by rw [hk]; decide), if_neg (show ¬ xs p &&& 31 = 21 by rw [hk]; decide), if_neg (show ¬ xs p &&& 31 = 22 by rw [hk]; decide), if_neg (show ¬ xs p &&& 31 = 23 by rw [hk]; decide), if_neg (show ¬ xs p &&& 31 = 24 by rw [hk]; decide), if_neg (show ¬ xs p &&& 31 = 25 by rw [hk]; decide), if_neg (show ¬ xs p &&& 31 = 26 by rw [hk]; decide), if_neg (show ¬ xs p &&& 31 = 27 by rw [hk]; decide), if_pos hk, g1, pr_sb, g2, pr_sb, g3, pr_sb, g4, pr_sb, g5, pr_sb, pr_layC (iv_LC h), pr_sb, e1, cq_b2, pr_sb, pr_sb, pr_sb, pr_sb, pr_sb, pr_layM (iv_LM hi), pr_sb, e2, cq_b2, if_pos rfl, show nI p + 6 = nI (p + 6) from nI_add p 6]
set_option maxHeartbeats 4000000 in
theorem lw_29 (hL : L ≤ 3072) (hp : p + 6 ≤ L) (h : iv n S I R) (hk : xs p &&& 31 = 29) : lw_T L xs n S I J R p := by
  obtain ⟨v, n1, S1, I1, J1, R1, I2, e1, e2, hi⟩ := ck_sales (J := J) h (xs (p + 1)) (xs (p + 2)) (xs (p + 3)) (xs (p + 4))
  refine ⟨n1, S1, I2, J1, R1, ?_, hi⟩
  have g0 : rk_srd L xs (nI p) = some (xs p) := by
    have := lw_srd (k := 0) (xs := xs) hL (by omega : p + 0 < L)
    rwa [nI_add, Nat.add_zero] at this
  have g1 : rk_srd L xs (nI p + 1) = some (xs (p + 1)) := lw_srd (k := 1) hL (by omega)
  have g2 : rk_srd L xs (nI p + 2) = some (xs (p + 2)) := lw_srd (k := 2) hL (by omega)
  have g3 : rk_srd L xs (nI p + 3) = some (xs (p + 3)) := lw_srd (k := 3) hL (by omega)
  have g4 : rk_srd L xs (nI p + 4) = some (xs (p + 4)) := lw_srd (k := 4) hL (by omega)
  have hend : ¬ ((Int32.ofNat L) - 6) < nI p := by
    rw [show (Int32.ofNat L) - 6 = nI (L - 6) from pk_sub (a := L) (b := 6) (by omega)]
    exact nI_nlt (by omega) (by omega)
  unfold f_L_law_1000000_l18
  rw [if_neg hend, g0, pr_sb, if_neg (show ¬ xs p &&& 31 = 0 by rw [hk]; decide), if_neg (show ¬ xs p &&& 31 = 1 by rw [hk]; decide), if_neg (show ¬ xs p &&& 31 = 2 by rw [hk]; decide), if_neg (show ¬ xs p &&& 31 = 3 by rw [hk]; decide), if_neg (show ¬ xs p &&& 31 = 4 by rw [hk]; decide), if_neg (show ¬ xs p &&& 31 = 5 by rw [hk]; decide), if_neg (show ¬ xs p &&& 31 = 6 by rw [hk]; decide), if_neg (show ¬ xs p &&& 31 = 7 by rw [hk]; decide), if_neg (show ¬ xs p &&& 31 = 8 by rw [hk]; decide), if_neg (show ¬ xs p &&& 31 = 9 by rw [hk]; decide), if_neg (show ¬ xs p &&& 31 = 10 by rw [hk]; decide), if_neg (show ¬ xs p &&& 31 = 11 by rw [hk]; decide), if_neg (show ¬ xs p &&& 31 = 12 by rw [hk]; decide), if_neg (show ¬ xs p &&& 31 = 13 by rw [hk]; decide), if_neg (show ¬ xs p &&& 31 = 14 by rw [hk]; decide), if_neg (show ¬ xs p &&& 31 = 15 by rw [hk]; decide), if_neg (show ¬ xs p &&& 31 = 16 by rw [hk]; decide), if_neg (show ¬ xs p &&& 31 = 17 by rw [hk]; decide), if_neg (show ¬ xs p &&& 31 = 18 by rw [hk]; decide), if_neg (show ¬ xs p &&& 31 = 19 by rw [hk]; decide), if_neg (show ¬ xs p &&& 31 = 20 by rw [hk]; decide), if_neg (show ¬ xs p &&& 31 = 21 by rw [hk]; decide), if_neg (show ¬ xs p &&& 31 = 22 by rw [hk]; decide), if_neg (show ¬ xs p &&& 31 = 23 by rw [hk]; decide), if_neg (show ¬ xs p &&& 31 = 24 by rw [hk]; decide), if_neg (show ¬ xs p &&& 31 = 25 by rw [hk]; decide), if_neg (show ¬ xs p &&& 31 = 26 by rw [hk]; decide), if_neg (show ¬ xs p &&& 31 = 27 by rw [hk]; decide), if_neg (show ¬ xs p &&& 31 = 28 by rw [hk]; decide), if_pos hk, g1, pr_sb, g2, pr_sb, g3, pr_sb, g4, pr_sb, pr_layC (iv_LC h), pr_sb, e1, pr_b6, pr_sb, pr_sb, pr_sb, pr_sb, pr_layM (iv_LM hi), pr_sb, e2, cq_b2, if_pos rfl, show nI p + 6 = nI (p + 6) from nI_add p 6]
set_option maxHeartbeats 4000000 in
theorem lw_30 (hL : L ≤ 3072) (hp : p + 6 ≤ L) (h : iv n S I R) (hk : xs p &&& 31 = 30) : lw_T L xs n S I J R p := by
  obtain ⟨v, e1, e2⟩ := ck_taken h (xs (p + 1)) (xs (p + 2))
  have hi := h
  refine ⟨n, S, I, J, R, ?_, hi⟩
  have g0 : rk_srd L xs (nI p) = some (xs p) := by
    have := lw_srd (k := 0) (xs := xs) hL (by omega : p + 0 < L)
    rwa [nI_add, Nat.add_zero] at this
  have g1 : rk_srd L xs (nI p + 1) = some (xs (p + 1)) := lw_srd (k := 1) hL (by omega)
  have g2 : rk_srd L xs (nI p + 2) = some (xs (p + 2)) := lw_srd (k := 2) hL (by omega)
  have hend : ¬ ((Int32.ofNat L) - 6) < nI p := by
    rw [show (Int32.ofNat L) - 6 = nI (L - 6) from pk_sub (a := L) (b := 6) (by omega)]
    exact nI_nlt (by omega) (by omega)
  unfold f_L_law_1000000_l18
  rw [if_neg hend, g0, pr_sb, if_neg (show ¬ xs p &&& 31 = 0 by rw [hk]; decide), if_neg (show ¬ xs p &&& 31 = 1 by rw [hk]; decide), if_neg (show ¬ xs p &&& 31 = 2 by rw [hk]; decide), if_neg (show ¬ xs p &&& 31 = 3 by rw [hk]; decide), if_neg (show ¬ xs p &&& 31 = 4 by rw [hk]; decide), if_neg (show ¬ xs p &&& 31 = 5 by rw [hk]; decide), if_neg (show ¬ xs p &&& 31 = 6 by rw [hk]; decide), if_neg (show ¬ xs p &&& 31 = 7 by rw [hk]; decide), if_neg (show ¬ xs p &&& 31 = 8 by rw [hk]; decide), if_neg (show ¬ xs p &&& 31 = 9 by rw [hk]; decide), if_neg (show ¬ xs p &&& 31 = 10 by rw [hk]; decide), if_neg (show ¬ xs p &&& 31 = 11 by rw [hk]; decide), if_neg (show ¬ xs p &&& 31 = 12 by rw [hk]; decide), if_neg (show ¬ xs p &&& 31 = 13 by rw [hk]; decide), if_neg (show ¬ xs p &&& 31 = 14 by rw [hk]; decide), if_neg (show ¬ xs p &&& 31 = 15 by rw [hk]; decide), if_neg (show ¬ xs p &&& 31 = 16 by rw [hk]; decide), if_neg (show ¬ xs p &&& 31 = 17 by rw [hk]; decide), if_neg (show ¬ xs p &&& 31 = 18 by rw [hk]; decide), if_neg (show ¬ xs p &&& 31 = 19 by rw [hk]; decide), if_neg (show ¬ xs p &&& 31 = 20 by rw [hk]; decide), if_neg (show ¬ xs p &&& 31 = 21 by rw [hk]; decide), if_neg (show ¬ xs p &&& 31 = 22 by rw [hk]; decide), if_neg (show ¬ xs p &&& 31 = 23 by rw [hk]; decide), if_neg (show ¬ xs p &&& 31 = 24 by rw [hk]; decide), if_neg (show ¬ xs p &&& 31 = 25 by rw [hk]; decide), if_neg (show ¬ xs p &&& 31 = 26 by rw [hk]; decide), if_neg (show ¬ xs p &&& 31 = 27 by rw [hk]; decide), if_neg (show ¬ xs p &&& 31 = 28 by rw [hk]; decide), if_neg (show ¬ xs p &&& 31 = 29 by rw [hk]; decide), if_pos hk, g1, pr_sb, g2, pr_sb, pr_layC (iv_LC h), pr_sb, e1, pr_sb, pr_sb, pr_sb, pr_layM (iv_LM hi), pr_sb, e2, pr_sb, if_pos rfl, show nI p + 6 = nI (p + 6) from nI_add p 6]
set_option maxHeartbeats 4000000 in
theorem lw_31 (hL : L ≤ 3072) (hp : p + 6 ≤ L) (h : iv n S I R) (hk : ∀ k : Nat, k < 31 → ¬ xs p &&& 31 = nI k) : lw_T L xs n S I J R p := by
  refine ⟨n, S, I, J, R, ?_, h⟩
  have g0 : rk_srd L xs (nI p) = some (xs p) := by
    have := lw_srd (k := 0) (xs := xs) hL (by omega : p + 0 < L)
    rwa [nI_add, Nat.add_zero] at this
  have hend : ¬ ((Int32.ofNat L) - 6) < nI p := by
    rw [show (Int32.ofNat L) - 6 = nI (L - 6) from pk_sub (a := L) (b := 6) (by omega)]
    exact nI_nlt (by omega) (by omega)
  unfold f_L_law_1000000_l18
  rw [if_neg hend, g0, pr_sb, if_neg (show ¬ xs p &&& 31 = 0 from hk 0 (by omega)), if_neg (show ¬ xs p &&& 31 = 1 from hk 1 (by omega)), if_neg (show ¬ xs p &&& 31 = 2 from hk 2 (by omega)), if_neg (show ¬ xs p &&& 31 = 3 from hk 3 (by omega)), if_neg (show ¬ xs p &&& 31 = 4 from hk 4 (by omega)), if_neg (show ¬ xs p &&& 31 = 5 from hk 5 (by omega)), if_neg (show ¬ xs p &&& 31 = 6 from hk 6 (by omega)), if_neg (show ¬ xs p &&& 31 = 7 from hk 7 (by omega)), if_neg (show ¬ xs p &&& 31 = 8 from hk 8 (by omega)), if_neg (show ¬ xs p &&& 31 = 9 from hk 9 (by omega)), if_neg (show ¬ xs p &&& 31 = 10 from hk 10 (by omega)), if_neg (show ¬ xs p &&& 31 = 11 from hk 11 (by omega)), if_neg (show ¬ xs p &&& 31 = 12 from hk 12 (by omega)), if_neg (show ¬ xs p &&& 31 = 13 from hk 13 (by omega)), if_neg (show ¬ xs p &&& 31 = 14 from hk 14 (by omega)), if_neg (show ¬ xs p &&& 31 = 15 from hk 15 (by omega)), if_neg (show ¬ xs p &&& 31 = 16 from hk 16 (by omega)), if_neg (show ¬ xs p &&& 31 = 17 from hk 17 (by omega)), if_neg (show ¬ xs p &&& 31 = 18 from hk 18 (by omega)), if_neg (show ¬ xs p &&& 31 = 19 from hk 19 (by omega)), if_neg (show ¬ xs p &&& 31 = 20 from hk 20 (by omega)), if_neg (show ¬ xs p &&& 31 = 21 from hk 21 (by omega)), if_neg (show ¬ xs p &&& 31 = 22 from hk 22 (by omega)), if_neg (show ¬ xs p &&& 31 = 23 from hk 23 (by omega)), if_neg (show ¬ xs p &&& 31 = 24 from hk 24 (by omega)), if_neg (show ¬ xs p &&& 31 = 25 from hk 25 (by omega)), if_neg (show ¬ xs p &&& 31 = 26 from hk 26 (by omega)), if_neg (show ¬ xs p &&& 31 = 27 from hk 27 (by omega)), if_neg (show ¬ xs p &&& 31 = 28 from hk 28 (by omega)), if_neg (show ¬ xs p &&& 31 = 29 from hk 29 (by omega)), if_neg (show ¬ xs p &&& 31 = 30 from hk 30 (by omega)), show nI p + 6 = nI (p + 6) from nI_add p 6]
theorem lw_turn (hL : L ≤ 3072) (hp : p + 6 ≤ L) (h : iv n S I R) : lw_T L xs n S I J R p := by
  by_cases k0 : xs p &&& 31 = 0
  · exact lw_0 hL hp h k0
  by_cases k1 : xs p &&& 31 = 1
  · exact lw_1 hL hp h k1
  by_cases k2 : xs p &&& 31 = 2
  · exact lw_2 hL hp h k2
  by_cases k3 : xs p &&& 31 = 3
  · exact lw_3 hL hp h k3
  by_cases k4 : xs p &&& 31 = 4
  · exact lw_4 hL hp h k4
  by_cases k5 : xs p &&& 31 = 5
  · exact lw_5 hL hp h k5
  by_cases k6 : xs p &&& 31 = 6
  · exact lw_6 hL hp h k6
  by_cases k7 : xs p &&& 31 = 7
  · exact lw_7 hL hp h k7
  by_cases k8 : xs p &&& 31 = 8
  · exact lw_8 hL hp h k8
  by_cases k9 : xs p &&& 31 = 9
  · exact lw_9 hL hp h k9
  by_cases k10 : xs p &&& 31 = 10
  · exact lw_10 hL hp h k10
  by_cases k11 : xs p &&& 31 = 11
  · exact lw_11 hL hp h k11
  by_cases k12 : xs p &&& 31 = 12
  · exact lw_12 hL hp h k12
  by_cases k13 : xs p &&& 31 = 13
  · exact lw_13 hL hp h k13
  by_cases k14 : xs p &&& 31 = 14
  · exact lw_14 hL hp h k14
  by_cases k15 : xs p &&& 31 = 15
  · exact lw_15 hL hp h k15
  by_cases k16 : xs p &&& 31 = 16
  · exact lw_16 hL hp h k16
  by_cases k17 : xs p &&& 31 = 17
  · exact lw_17 hL hp h k17
  by_cases k18 : xs p &&& 31 = 18
  · exact lw_18 hL hp h k18
  by_cases k19 : xs p &&& 31 = 19
  · exact lw_19 hL hp h k19
  by_cases k20 : xs p &&& 31 = 20
  · exact lw_20 hL hp h k20
  by_cases k21 : xs p &&& 31 = 21
  · exact lw_21 hL hp h k21
  by_cases k22 : xs p &&& 31 = 22
  · exact lw_22 hL hp h k22
  by_cases k23 : xs p &&& 31 = 23
  · exact lw_23 hL hp h k23
  by_cases k24 : xs p &&& 31 = 24
  · exact lw_24 hL hp h k24
  by_cases k25 : xs p &&& 31 = 25
  · exact lw_25 hL hp h k25
  by_cases k26 : xs p &&& 31 = 26
  · exact lw_26 hL hp h k26
  by_cases k27 : xs p &&& 31 = 27
  · exact lw_27 hL hp h k27
  by_cases k28 : xs p &&& 31 = 28
  · exact lw_28 hL hp h k28
  by_cases k29 : xs p &&& 31 = 29
  · exact lw_29 hL hp h k29
  by_cases k30 : xs p &&& 31 = 30
  · exact lw_30 hL hp h k30
  refine lw_31 hL hp h (fun k hk => ?_)
  rcases (by omega : k = 0 ∨ k = 1 ∨ k = 2 ∨ k = 3 ∨ k = 4 ∨ k = 5 ∨ k = 6 ∨ k = 7 ∨ k = 8 ∨ k = 9 ∨ k = 10 ∨ k = 11 ∨ k = 12 ∨ k = 13 ∨ k = 14 ∨ k = 15 ∨ k = 16 ∨ k = 17 ∨ k = 18 ∨ k = 19 ∨ k = 20 ∨ k = 21 ∨ k = 22 ∨ k = 23 ∨ k = 24 ∨ k = 25 ∨ k = 26 ∨ k = 27 ∨ k = 28 ∨ k = 29 ∨ k = 30) with rfl | rfl | rfl | rfl | rfl | rfl | rfl | rfl | rfl | rfl | rfl | rfl | rfl | rfl | rfl | rfl | rfl | rfl | rfl | rfl | rfl | rfl | rfl | rfl | rfl | rfl | rfl | rfl | rfl | rfl | rfl
  · exact k0
  · exact k1
  · exact k2
  · exact k3
  · exact k4
  · exact k5
  · exact k6
  · exact k7
  · exact k8
  · exact k9
  · exact k10
  · exact k11
  · exact k12
  · exact k13
  · exact k14
  · exact k15
  · exact k16
  · exact k17
  · exact k18
  · exact k19
  · exact k20
  · exact k21
  · exact k22
  · exact k23
  · exact k24
  · exact k25
  · exact k26
  · exact k27
  · exact k28
  · exact k29
  · exact k30
end LT
