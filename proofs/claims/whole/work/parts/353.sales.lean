/-- after both loops -/
theorem sl_iv {n n1 c s s1 t r : Nat} {oc os os1 ot : Nat → Nat} {sv sv1 cv : pv_V} {S S1 : rk_Sh} {I I1 I2 : rk_I} {R R1 : rk_R} {k : Nat} (h1 : rk_LC S R) (h2 : rk_LM S R) (h3 : 57 ≤ n) (h4 : n ≤ 57 + 3 * c + s + 3 * t) (hB1 : pv_B c s1 sv1 cv) (h6 : pv_X n c s oc os sv cv S I R) (h8 : pv_T n t r ot S I R) (h9 : pv_F I) (h10 : pv_H I) (h11 : pv_G c s t oc os I) (hn1 : n1 = n + k) (hs1 : s1 = s + k) (hX1 : pv_X n1 c s1 oc os1 sv1 cv S1 I1 R1) (hL1 : rk_LC S1 R1) (ho : ∀ k, k < s → os1 k = os k) (hS : ∀ k, k < n → S1 k = S k) (hI : ∀ k, k < n → k ≠ 0 → I1 k = I k) (hI0 : ∀ i, i ≠ 3 → I1 0 i = I 0 i) (hR : ∀ k, k < n → k ≠ 2 → R1 k = R k) (hY : pv_Y c s1 sv1 cv I2) (hM : ∀ q, q ≠ 31 → (q < 38 ∨ 47 ≤ q) → I2 q = I1 q) (hM31 : ∀ i, i ≠ 20 → I2 31 i = I1 31 i) : iv n1 S1 I2 R1 := by
  have hot := fun q hq => (h8.2.2.2.2.2.2.2 q hq).2.1
  have W : ∀ q, q < n → q ≠ 0 → q ≠ 31 → (q < 38 ∨ 47 ≤ q) → I2 q = I q := fun q a b d e => (hM q d e).trans (hI q a b)
  have W0 : ∀ i, i ≠ 3 → I2 0 i = I 0 i := fun i hi => by rw [hM 0 (by omega) (by omega)]; exact hI0 i hi
  have W31 : ∀ i, i ≠ 20 → I2 31 i = I 31 i := fun i hi => by rw [hM31 i hi, hI 31 (by omega) (by omega)]
  refine ⟨c, s1, t, r, oc, os1, ot, sv1, cv, hL1, LM_new h2 (fun k _ hk => hS k (by omega)) (fun k a hk => hR k (by omega) (by omega)), by omega, by omega, hB1, mX hX1 (Nat.le_refl _) (fun _ _ _ => rfl) (fun k a _ => hM k (by omega) (by omega)) (by rw [hM 0 (by omega) (by omega)]) (by rw [hM 0 (by omega) (by omega)]) (fun _ _ _ => rfl) rfl rfl, hY, ?_, ?_, ?_, ?_⟩
  · refine mT h8 (by omega) h3 (W0 5 (by omega)) (W0 6 (by omega)) (W31 3 (by omega)) (W31 4 (by omega)) (W 32 (by omega) (by omega) (by omega) (by omega)) (W 33 (by omega) (by omega) (by omega) (by omega)) (fun q hq => ?_) (fun q hq => ?_) (fun q hq => ?_) (hR 3 (by omega) (by omega))
    · have := hot q hq
      exact ⟨hS _ (by omega), hS _ (by omega), hS _ (by omega)⟩
    · have := hot q hq
      exact ⟨W _ (by omega) (by omega) (by omega) (by omega), W _ (by omega) (by omega) (by omega) (by omega)⟩
    · have := hot q hq
      exact hR _ (by omega) (by omega)
  · exact mF h9 (by rw [W 4 (by omega) (by omega) (by omega) (by omega)]) (W31 6 (by omega)) (W 5 (by omega) (by omega) (by omega) (by omega)) (W 34 (by omega) (by omega) (by omega) (by omega))
  · exact mH h10 (fun k _ _ => W k (by omega) (by omega) (by omega) (by omega)) (fun k _ _ => W k (by omega) (by omega) (by omega) (by omega))
  · refine mG h11 h6.1 (Nat.le_refl _) (by omega) (Nat.le_refl _) (fun _ _ => rfl) ho (fun k hk => ?_) (fun k hk => ?_) (W0 13 (by omega)) (W0 14 (by omega)) (W0 15 (by omega)) (W0 16 (by omega)) (W31 38 (by omega)) (W31 39 (by omega)) (W31 40 (by omega)) (W31 41 (by omega)) (W 50 (by omega) (by omega) (by omega) (by omega)) (W 51 (by omega) (by omega) (by omega) (by omega)) (W 52 (by omega) (by omega) (by omega) (by omega))
    · have := h6.1.2.1 k hk
      rw [W (os k) (by omega) (by omega) (by omega) (by omega)]
      exact ⟨rfl, rfl⟩
    · have := h6.1.1 k hk
      exact W _ (by omega) (by omega) (by omega) (by omega)
set_option maxHeartbeats 4000000 in
theorem ck_sales {n : Nat} {S : rk_Sh} {I : rk_I} {J : rk_J} {R : rk_R} (h : iv n S I R) (a b d e : Int32) : ∃ v n1 S1 I1 J1 R1 I2, f_X9_sales n S I J R a b d e = some (v, n1, S1, I1, J1, R1) ∧ f_X10_sales I1 a b d e = some (v, I2) ∧ iv n1 S1 I2 R1 := by
  have h' := h
  obtain ⟨c, s, t, r, oc, os, ot, sv, cv, h1, h2, h3, h4, h5, h6, h7, h8, h9, h10, h11⟩ := h
  have hc := h5.1
  have hs := h5.2.1
  have ht := h8.2.1
  have bad : ∀ x, f_X9_sales n S I J R a b d e = some (x, n, S, I, J, R) → f_X10_sales I a b d e = some (x, I) → ∃ v n1 S1 I1 J1 R1 I2, f_X9_sales n S I J R a b d e = some (v, n1, S1, I1, J1, R1) ∧ f_X10_sales I1 a b d e = some (v, I2) ∧ iv n1 S1 I2 R1 := fun x P Q => ⟨x, n, S, I, J, R, I, P, Q, h'⟩
  rcases pg_sheet h1 a with ⟨q, q1, rfl, q3, q4⟩ | ⟨q3, q4⟩
  · have hC := sh_C h1 q1
    have ck : rk_ck S (20 + 2 * q) 6 3 = some () := pr_ck hC.1
    rcases pr_inN (x := b) (h := 2) (n := 3) (by omega) (by decide) with ⟨u, u1, rfl, u3⟩ | ⟨u1, u3⟩
    · have b0 : ¬ nI u < 0 := nI_pos (by omega)
      have b3 : ¬ (3 : Int32) ≤ nI u := nI_ge (b := 3) u1 (by omega)
      rcases pr_inN (x := e) (h := 8) (n := 9) (by omega) (by decide) with ⟨N, N1, rfl, N3⟩ | ⟨N1, N3⟩
      · have e0 : ¬ nI N < 0 := nI_pos (by omega)
        have e8 : nI N ≤ 8 := nI_le (b := 8) (by omega) (by omega)
        rcases h10 q q1 with ⟨g1, g2⟩ | ⟨g1, w, m, w1, w2, w3, w4, w5, w6, w7⟩
        · refine bad (-11) ?_ ?_
          · unfold f_X9_sales
            rw [q3, pr_sb, pr_oc1, if_neg b0, if_neg b3, if_neg e0, if_pos e8, ck, pr_sb, if_pos g1]
          · unfold f_X10_sales
            rw [q4, pr_sb, if_neg (by decide), u3, pr_sb, if_neg (by decide), N3, pr_sb, if_neg (by decide), pr_rd q1 (by omega), g2, pr_sb, if_pos rfl]
            unfold f_X10_sales_j57
            rw [pr_rd q1 (by omega), g2]
            rfl
        · have e1 : ¬ I (20 + 2 * q) 1 = -1 := by rw [w3]; exact sh_m1 w1
          by_cases hwu : w = u
          · have A : f_X9_sales n S I J R (nI q) (nI u) d (nI N) = (rk_loop (fun a9 : Int32 × Int32 × Int32 × Nat × rk_Sh × rk_I × rk_J × rk_R => f_X9_sales_l69 a9.2.2.2.1 a9.2.2.2.2.1 a9.2.2.2.2.2.1 a9.2.2.2.2.2.2.1 a9.2.2.2.2.2.2.2 (nI N) (20 + 2 * q) a9.1 a9.2.1 a9.2.2.1) 9 (0, d, 0, n, S, I, J, R)).bind fun q9 => rk_sc q9 (fun b9 => rk_p8 b9 (fun x1 x2 x3 n1 S1 I1 J1 R1 => (some (x1, n1, S1, I1, J1, R1)))) (fun q8 => some q8) := by
              unfold f_X9_sales
              rw [q3, pr_sb, pr_oc1, if_neg b0, if_neg b3, if_neg e0, if_pos e8, ck, pr_sb, if_neg e1, w3, if_pos (by rw [hwu])]
            have B : ∀ K : rk_I, K 53 = I 53 → K 54 = I 54 → f_X10_sales K (nI q) (nI u) d (nI N) = (rk_while (fun a9 : Int32 × Int32 × rk_I => f_X10_sales_l75 a9.2.2 (nI q) d (nI N) a9.1 a9.2.1) (0, 0, K)).bind fun q9 => rk_sc q9 (fun b9 => rk_p3 b9 (fun x2 x3 I1 => (some (x2, I1)))) (fun q8 => some q8) := fun K k3 k4 => by
              unfold f_X10_sales
              rw [q4, pr_sb, if_neg (by decide), u3, pr_sb, if_neg (by decide), N3, pr_sb, if_neg (by decide), pr_rd q1 (by omega), k3, g1, pr_sb, if_neg (by decide), pr_rd q1 (by omega), k4, w4, pr_sb, if_pos (by rw [hwu])]
              unfold f_X10_sales_j57
              rw [pr_rd q1 (by omega), k3, g1, pr_sb, if_neg (by decide)]
            by_cases hd : d < 0
            · -- a place below the row's first
              rcases Nat.eq_zero_or_pos N with hN | hN
              · subst hN
                refine bad 0 ?_ ?_
                · rw [A]
                  rfl
                · rw [B I rfl rfl]
                  refine pr_wl (m := 1) ?_
                  rfl
              · have c0 : ¬ nI N ≤ 0 := nI_nle hN (by omega)
                refine bad (-12) ?_ ?_
                · rw [A]
                  have st : f_X9_sales_l69 n S I J R (nI N) (20 + 2 * q) 0 d 0 = some (.inr (.inr (-12, n, S, I, J, R))) := by
                    unfold f_X9_sales_l69
                    have : f_X6_has I (20 + 2 * q) d 5 = some 0 := by
                      unfold f_X6_has
                      rw [if_neg (by decide), if_pos hd]
                    rw [if_neg c0, ck, pr_sb, this]
                    rfl
                  show ((f_X9_sales_l69 n S I J R (nI N) (20 + 2 * q) 0 d 0).bind _).bind _ = _
                  rw [st]
                  rfl
                · rw [B I rfl rfl]
                  have st : f_X10_sales_l75 I (nI q) d (nI N) 0 0 = some (.inr (.inr (-12, I))) := by
                    unfold f_X10_sales_l75
                    rw [if_neg c0, if_pos hd]
                  rw [rk_while_out (f := fun a9 : Int32 × Int32 × rk_I => f_X10_sales_l75 a9.2.2 (nI q) d (nI N) a9.1 a9.2.1) (a := (0, 0, I)) st]
                  rfl
            · obtain ⟨p, p1, rfl⟩ := nI_of hd
              have p1 : p < 2147483648 := by omega
              obtain ⟨j, hj⟩ := sl_in1 (m := m) (at_ := p) (n := N)
              obtain ⟨n1, os1, S1, I1, J1, R1, c1, c2, c3, c4, c5, c6, c7, c8, c9⟩ := sl_c (J := J) h1 h3 (by omega) h5 h6 q1 p1 w2 w5 (by omega) hj
              obtain ⟨hB1, hk1, hk2⟩ := sl_runB (X := fun i => I (21 + 2 * q) (p + i)) h5 j
              have hY1 : pv_Y c s sv cv I1 := mY h7 (by rw [c7 31 (by omega) (by omega)]) (by rw [c7 31 (by omega) (by omega)]) (fun k _ _ => c7 k (by omega) (by omega))
              obtain ⟨I2, d1, d2, d3, d4⟩ := sl_m (X := fun i => I (21 + 2 * q) (p + i)) h5 hY1 q1 p1 w2 (by rw [c7 55 (by omega) (by omega)]; exact w6) (by omega) hj (fun i hi => by rw [c7 56 (by omega) (by omega)]; exact (w7 _ hi).symm)
              have A1 := A
              rw [c1] at A1
              have B1 := B I1 (c7 53 (by omega) (by omega)) (c7 54 (by omega) (by omega))
              rw [d1] at B1
              have fin := sl_iv h1 h2 h3 h4 hB1 h6 h8 h9 h10 h11 c4 hk2 c2 c3 c5 c6 c7 c8 c9 d2 d3 d4
              by_cases hjN : j = N
              · rw [if_pos hjN] at A1 B1
                exact ⟨_, n1, S1, I1, J1, R1, I2, A1, B1, fin⟩
              · rw [if_neg hjN] at A1 B1
                exact ⟨_, n1, S1, I1, J1, R1, I2, A1, B1, fin⟩
          · have hne : ¬ nI w = nI u := fun z => hwu ((nI_eq (by omega) (by omega)).mp z)
            refine bad (-13) ?_ ?_
            · unfold f_X9_sales
              rw [q3, pr_sb, pr_oc1, if_neg b0, if_neg b3, if_neg e0, if_pos e8, ck, pr_sb, if_neg e1, w3, if_neg hne]
            · unfold f_X10_sales
              rw [q4, pr_sb, if_neg (by decide), u3, pr_sb, if_neg (by decide), N3, pr_sb, if_neg (by decide), pr_rd q1 (by omega), g1, pr_sb, if_neg (by decide), pr_rd q1 (by omega), w4, pr_sb, if_neg hne]
      · refine bad (-2) ?_ ?_
        · unfold f_X9_sales
          rw [q3, pr_sb, pr_oc1, if_neg b0, if_neg b3]
          by_cases h0 : e < 0
          · rw [if_pos h0]
          · rw [if_neg h0, if_neg]
            rw [fa_lt, pr_z] at h0
            have : (8 : Int32).toInt = 8 := by decide
            rw [fa_le, this]
            omega
        · unfold f_X10_sales
          rw [q4, pr_sb, if_neg (by decide), u3, pr_sb, if_neg (by decide), N3]
          rfl
    · refine bad (-2) ?_ ?_
      · unfold f_X9_sales
        rw [q3, pr_sb, pr_oc1]
        exact pr_lo (n := 3) (by decide) u1 rfl
      · unfold f_X10_sales
        rw [q4, pr_sb, if_neg (by decide), u3]
        rfl
  · refine bad (-2) ?_ ?_
    · unfold f_X9_sales
      rw [q3]
      rfl
    · unfold f_X10_sales
      rw [q4]
      rfl
