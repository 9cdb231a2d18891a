/-- which of the rows of five lie within: the first j -/
def sl_in (m at_ n j : Nat) : Prop := j ≤ n ∧ (∀ k, k < j → at_ + 5 * k + 5 ≤ m) ∧ (j < n → m < at_ + 5 * j + 5)
theorem sl_in1 {m at_ n : Nat} : ∃ j, sl_in m at_ n j := by
  induction n with
  | zero => exact ⟨0, Nat.le_refl _, fun k hk => absurd hk (Nat.not_lt_zero k), fun h => absurd h (Nat.lt_irrefl _)⟩
  | succ n ih =>
    obtain ⟨j, j1, j2, j3⟩ := ih
    by_cases hjn : j < n
    · exact ⟨j, by omega, j2, fun _ => j3 hjn⟩
    · have hj : j = n := by omega
      subst hj
      by_cases hf : at_ + 5 * j + 5 ≤ m
      · refine ⟨j + 1, Nat.le_refl _, fun k hk => ?_, fun h => absurd h (Nat.lt_irrefl _)⟩
        by_cases hkj : k = j
        · rw [hkj]; exact hf
        · exact j2 k (by omega)
      · exact ⟨j, by omega, j2, fun _ => by omega⟩
/-- the class's loop -/
theorem sl_c {n c s : Nat} {oc os : Nat → Nat} {sv cv : pv_V} {S : rk_Sh} {I : rk_I} {J : rk_J} {R : rk_R} (hL : rk_LC S R) (hn : 57 ≤ n) (hn2 : n < 700000) (hB : pv_B c s sv cv) (hX : pv_X n c s oc os sv cv S I R) {q m a N j : Nat} (hq : q < 4) (ha : a < 2147483648) (hm : m ≤ 40) (h2 : I (20 + 2 * q) 2 = nI m) (hN : N ≤ 8) (hj : sl_in m a N j) : ∃ n1 os1 S1 I1 J1 R1, rk_loop (fun a9 : Int32 × Int32 × Int32 × Nat × rk_Sh × rk_I × rk_J × rk_R => f_X9_sales_l69 a9.2.2.2.1 a9.2.2.2.2.1 a9.2.2.2.2.2.1 a9.2.2.2.2.2.2.1 a9.2.2.2.2.2.2.2 (nI N) (20 + 2 * q) a9.1 a9.2.1 a9.2.2.1) 9 (0, nI a, 0, n, S, I, J, R) = some (if j = N then .inl (nI (sl_run c (fun i => I (21 + 2 * q) (a + i)) s sv j).1, nI (a + 5 * j), nI j, n1, S1, I1, J1, R1) else .inr (-12, n1, S1, I1, J1, R1)) ∧ pv_X n1 c (sl_run c (fun i => I (21 + 2 * q) (a + i)) s sv j).2.1 oc os1 (sl_run c (fun i => I (21 + 2 * q) (a + i)) s sv j).2.2 cv S1 I1 R1 ∧ rk_LC S1 R1 ∧ n1 = n + (sl_run c (fun i => I (21 + 2 * q) (a + i)) s sv j).1 ∧ (∀ k, k < s → os1 k = os k) ∧ (∀ k, k < n → S1 k = S k) ∧ (∀ k, k < n → k ≠ 0 → I1 k = I k) ∧ (∀ i, i ≠ 3 → I1 0 i = I 0 i) ∧ ∀ k, k < n → k ≠ 2 → R1 k = R k := by
  let X : Nat → Int32 := fun i => I (21 + 2 * q) (a + i)
  have hC := sh_C hL hq
  obtain ⟨b, e1, w⟩ := pr_lfor (f := fun a9 : Int32 × Int32 × Int32 × Nat × rk_Sh × rk_I × rk_J × rk_R => f_X9_sales_l69 a9.2.2.2.1 a9.2.2.2.2.1 a9.2.2.2.2.2.1 a9.2.2.2.2.2.2.1 a9.2.2.2.2.2.2.2 (nI N) (20 + 2 * q) a9.1 a9.2.1 a9.2.2.1) (fun k z => ∃ os1, z.1 = nI (sl_run c X s sv k).1 ∧ z.2.1 = nI (a + 5 * k) ∧ z.2.2.1 = nI k ∧ pv_X z.2.2.2.1 c (sl_run c X s sv k).2.1 oc os1 (sl_run c X s sv k).2.2 cv z.2.2.2.2.1 z.2.2.2.2.2.1 z.2.2.2.2.2.2.2 ∧ rk_LC z.2.2.2.2.1 z.2.2.2.2.2.2.2 ∧ z.2.2.2.1 = n + (sl_run c X s sv k).1 ∧ (∀ k, k < s → os1 k = os k) ∧ (∀ k, k < n → z.2.2.2.2.1 k = S k) ∧ (∀ k, k < n → k ≠ 0 → z.2.2.2.2.2.1 k = I k) ∧ (∀ i, i ≠ 3 → z.2.2.2.2.2.1 0 i = I 0 i) ∧ ∀ k, k < n → k ≠ 2 → z.2.2.2.2.2.2.2 k = R k) j (fun b => ∃ n1 os1 S1 I1 J1 R1, b = (if j = N then .inl (nI (sl_run c X s sv j).1, nI (a + 5 * j), nI j, n1, S1, I1, J1, R1) else .inr (-12, n1, S1, I1, J1, R1)) ∧ pv_X n1 c (sl_run c X s sv j).2.1 oc os1 (sl_run c X s sv j).2.2 cv S1 I1 R1 ∧ rk_LC S1 R1 ∧ n1 = n + (sl_run c X s sv j).1 ∧ (∀ k, k < s → os1 k = os k) ∧ (∀ k, k < n → S1 k = S k) ∧ (∀ k, k < n → k ≠ 0 → I1 k = I k) ∧ (∀ i, i ≠ 3 → I1 0 i = I 0 i) ∧ ∀ k, k < n → k ≠ 2 → R1 k = R k) (by
      rintro k ⟨x, y, z, n', S', I', J', R'⟩ hk ⟨os1, hx, hy, hz, hX', hL', hn', ho', hS', hI', hI0', hR'⟩
      left
      have hx : x = nI (sl_run c X s sv k).1 := hx
      have hy : y = nI (a + 5 * k) := hy
      have hz : z = nI k := hz
      subst hx
      subst hy
      subst hz
      have hX' : pv_X n' c (sl_run c X s sv k).2.1 oc os1 (sl_run c X s sv k).2.2 cv S' I' R' := hX'
      have hL' : rk_LC S' R' := hL'
      have hn' : n' = n + (sl_run c X s sv k).1 := hn'
      have hS' : ∀ k, k < n → S' k = S k := hS'
      have hI' : ∀ k, k < n → k ≠ 0 → I' k = I k := hI'
      have hI0' : ∀ i, i ≠ 3 → I' 0 i = I 0 i := hI0'
      have hR' : ∀ k, k < n → k ≠ 2 → R' k = R k := hR'
      obtain ⟨hBk, hk1, hk2⟩ := sl_runB (X := X) hB k
      have hC' := sh_C hL' hq
      have hfit := hj.2.1 k hk
      have hjN := hj.1
      have c0 : ¬ nI N ≤ nI k := nI_ge (by omega) (by omega)
      have hhas : f_X6_has I' (20 + 2 * q) (nI (a + 5 * k)) 5 = some 1 := by
        unfold f_X6_has
        rw [if_neg (by decide), if_neg (nI_pos (by omega)), hI' _ (by omega) (by omega), h2, show (5 : Int32) = nI 5 from rfl, pk_sub (by omega), if_neg (nI_nlt (by omega) (by omega))]
      have hrd : ∀ i, i < 5 → rk_rdD S' I' (21 + 2 * q) (nI (a + 5 * k + i)) = some (X (5 * k + i)) := fun i hi => by
        rw [pr_rdD hC'.2.1 (by omega) (by omega), hI' _ (by omega) (by omega)]
        show some (I (21 + 2 * q) (a + 5 * k + i)) = some (I (21 + 2 * q) (a + (5 * k + i)))
        rw [Nat.add_assoc]
      have h0 := hrd 0 (by omega)
      have h1 := hrd 1 (by omega)
      have h2' := hrd 2 (by omega)
      have h3 := hrd 3 (by omega)
      have h4 := hrd 4 (by omega)
      rw [Nat.add_zero, Nat.add_zero] at h0
      have st : ∀ (v : Int32) (n'' : Nat) (S'' : rk_Sh) (I'' : rk_I) (J'' : rk_J) (R'' : rk_R), f_X9_sale n' S' I' J' R' (X (5 * k)) (X (5 * k + 1)) (X (5 * k + 2)) (X (5 * k + 3)) (X (5 * k + 4)) = some (v, n'', S'', I'', J'', R'') → f_X9_sales_l69 n' S' I' J' R' (nI N) (20 + 2 * q) (nI (sl_run c X s sv k).1) (nI (a + 5 * k)) (nI k) = (if v < 0 then some (.inl (nI (sl_run c X s sv k).1, nI (a + 5 * (k + 1)), nI (k + 1), n'', S'', I'', J'', R'')) else some (.inl (nI ((sl_run c X s sv k).1 + 1), nI (a + 5 * (k + 1)), nI (k + 1), n'', S'', I'', J'', R''))) := fun v n'' S'' I'' J'' R'' he => by
        unfold f_X9_sales_l69
        rw [if_neg c0, pr_ck hC'.1, pr_sb, hhas, pr_sb, if_neg (by decide), pr_sb, hC'.2.2.2, pr_sb, h0, pr_sb, nI_1 (a + 5 * k), h1, pr_sb, show (2 : Int32) = nI 2 from rfl, show (3 : Int32) = nI 3 from rfl, show (4 : Int32) = nI 4 from rfl, show (5 : Int32) = nI 5 from rfl, nI_add, nI_add, nI_add, nI_add, h2', pr_sb, h3, pr_sb, h4, pr_sb, he, pr_b6, nI_1, nI_1]
        rfl
      rcases cs_sale (J := J') hL' (by omega) (by omega) hBk hX' (X (5 * k)) (X (5 * k + 1)) (X (5 * k + 2)) (X (5 * k + 3)) (X (5 * k + 4)) with ⟨g1, g2⟩ | ⟨g1, g1', g2⟩ | ⟨g1, g1', I1, J1, R1, g2, g3, g4, g5, g6, g7⟩
      · have hr := sl_run0 (c := c) (X := X) (s := s) (sv := sv) (k := k) (fun z => g1 z.1)
        refine ⟨(nI (sl_run c X s sv k).1, nI (a + 5 * (k + 1)), nI (k + 1), n', S', I', J', R'), ?_, os1, ?_⟩
        · show f_X9_sales_l69 n' S' I' J' R' (nI N) (20 + 2 * q) (nI (sl_run c X s sv k).1) (nI (a + 5 * k)) (nI k) = _
          rw [st _ _ _ _ _ _ g2, if_pos (by decide)]
        · rw [hr]
          exact ⟨rfl, rfl, rfl, hX', hL', hn', ho', hS', hI', hI0', hR'⟩
      · have hr := sl_run0 (c := c) (X := X) (s := s) (sv := sv) (k := k) (fun z => by have := z.2; omega)
        refine ⟨(nI (sl_run c X s sv k).1, nI (a + 5 * (k + 1)), nI (k + 1), n', S', I', J', R'), ?_, os1, ?_⟩
        · show f_X9_sales_l69 n' S' I' J' R' (nI N) (20 + 2 * q) (nI (sl_run c X s sv k).1) (nI (a + 5 * k)) (nI k) = _
          rw [st _ _ _ _ _ _ g2, if_pos (by decide)]
        · rw [hr]
          exact ⟨rfl, rfl, rfl, hX', hL', hn', ho', hS', hI', hI0', hR'⟩
      · have hr := sl_run1 (c := c) (X := X) (s := s) (sv := sv) (k := k) ⟨g1, g1'⟩
        refine ⟨(nI ((sl_run c X s sv k).1 + 1), nI (a + 5 * (k + 1)), nI (k + 1), n' + 1, rk_sh S' n' 5 11, I1, J1, R1), ?_, (fun k' => if k' = (sl_run c X s sv k).2.1 then n' else os1 k'), ?_⟩
        · show f_X9_sales_l69 n' S' I' J' R' (nI N) (20 + 2 * q) (nI (sl_run c X s sv k).1) (nI (a + 5 * k)) (nI k) = _
          rw [st _ _ _ _ _ _ g2, if_neg (nI_pos (by omega))]
        · rw [hr]
          refine ⟨rfl, rfl, rfl, g3, g4, ?_, fun k' hk' => ?_, fun k' hk' => ?_, fun k' hk' hk0 => ?_, fun i hi => ?_, fun k' hk' hk2' => ?_⟩
          · show n' + 1 = n + ((sl_run c X s sv k).1 + 1)
            omega
          · show (if k' = (sl_run c X s sv k).2.1 then n' else os1 k') = _
            rw [if_neg (by omega)]
            exact ho' k' hk'
          · show rk_sh S' n' 5 11 k' = _
            rw [sh_o (by omega)]
            exact hS' k' hk'
          · show I1 k' = _
            rw [g5 k' (by omega) hk0]
            exact hI' k' hk' hk0
          · show I1 0 i = _
            rw [g6 i hi]
            exact hI0' i hi
          · show R1 k' = _
            rw [g7 k' (by omega) hk2']
            exact hR' k' hk' hk2') (by
      rintro ⟨x, y, z, n', S', I', J', R'⟩ ⟨os1, hx, hy, hz, hX', hL', hn', ho', hS', hI', hI0', hR'⟩
      have hx : x = nI (sl_run c X s sv j).1 := hx
      have hy : y = nI (a + 5 * j) := hy
      have hz : z = nI j := hz
      subst hx
      subst hy
      subst hz
      have hL' : rk_LC S' R' := hL'
      have hI' : ∀ k, k < n → k ≠ 0 → I' k = I k := hI'
      have hjN := hj.1
      refine ⟨_, ?_, n', os1, S', I', J', R', rfl, hX', hL', hn', ho', hS', hI', hI0', hR'⟩
      show f_X9_sales_l69 n' S' I' J' R' (nI N) (20 + 2 * q) (nI (sl_run c X s sv j).1) (nI (a + 5 * j)) (nI j) = _
      unfold f_X9_sales_l69
      by_cases hjn : j = N
      · rw [if_pos (nI_le (by omega) (by omega)), if_pos hjn]
      · have hC' := sh_C hL' hq
        have hout := hj.2.2 (by omega)
        have hhas : f_X6_has I' (20 + 2 * q) (nI (a + 5 * j)) 5 = some 0 := by
          have hsm : a + 5 * j < 2147483648 := by
            rcases Nat.eq_zero_or_pos j with h0 | h0
            · omega
            · have := hj.2.1 (j - 1) (by omega)
              omega
          have hn9 := hn'
          have l5 : (5 : Int32).toInt = 5 := by decide
          unfold f_X6_has
          rw [if_neg (by decide), if_neg (nI_pos (by omega)), hI' _ (by omega) (by omega), h2, if_pos]
          rw [fa_lt, fb_subI (by rw [l5, nI_toInt (by omega)]; omega) (by rw [l5, nI_toInt (by omega)]; omega), l5, nI_toInt (by omega), nI_toInt (by omega)]
          omega
        rw [if_neg (nI_ge (by omega) (by omega)), pr_ck hC'.1, pr_sb, hhas, pr_sb, if_pos rfl, if_neg hjn]) j 0 (0, nI a, 0, n, S, I, J, R) 9 (by omega) (by have := hj.1; omega) ⟨os, rfl, rfl, rfl, hX, hL, rfl, fun _ _ => rfl, fun _ _ => rfl, fun _ _ _ => rfl, fun _ _ => rfl, fun _ _ _ => rfl⟩
  obtain ⟨n1, os1, S1, I1, J1, R1, rfl, w2⟩ := w
  exact ⟨n1, os1, S1, I1, J1, R1, e1, w2⟩
/-- the reference's loop -/
theorem sl_m {c s : Nat} {sv cv : pv_V} {I : rk_I} (hB : pv_B c s sv cv) (hY : pv_Y c s sv cv I) {q m a N j : Nat} (hq : q < 4) (ha : a < 2147483648) (hm : m ≤ 40) (h55 : I 55 q = nI m) (hN : N ≤ 8) (hj : sl_in m a N j) {X : Nat → Int32} (hX : ∀ i, a + i < m → I 56 (40 * q + (a + i)) = X i) : ∃ I1, rk_while (fun a9 : Int32 × Int32 × rk_I => f_X10_sales_l75 a9.2.2 (nI q) (nI a) (nI N) a9.1 a9.2.1) (0, 0, I) = some (if j = N then .inl (nI (sl_run c X s sv j).1, nI j, I1) else .inr (-12, I1)) ∧ pv_Y c (sl_run c X s sv j).2.1 (sl_run c X s sv j).2.2 cv I1 ∧ (∀ q, q ≠ 31 → (q < 38 ∨ 47 ≤ q) → I1 q = I q) ∧ ∀ i, i ≠ 20 → I1 31 i = I 31 i := by
  have hjN := hj.1
  have l5 : (5 : Int32).toInt = 5 := by decide
  obtain ⟨b, e1, w⟩ := pr_for0 (f := fun a9 : Int32 × Int32 × rk_I => f_X10_sales_l75 a9.2.2 (nI q) (nI a) (nI N) a9.1 a9.2.1) (fun k z => z.1 = nI (sl_run c X s sv k).1 ∧ z.2.1 = nI k ∧ pv_Y c (sl_run c X s sv k).2.1 (sl_run c X s sv k).2.2 cv z.2.2 ∧ (∀ q, q ≠ 31 → (q < 38 ∨ 47 ≤ q) → z.2.2 q = I q) ∧ ∀ i, i ≠ 20 → z.2.2 31 i = I 31 i) j (fun b => ∃ I1, b = (if j = N then .inl (nI (sl_run c X s sv j).1, nI j, I1) else .inr (-12, I1)) ∧ pv_Y c (sl_run c X s sv j).2.1 (sl_run c X s sv j).2.2 cv I1 ∧ (∀ q, q ≠ 31 → (q < 38 ∨ 47 ≤ q) → I1 q = I q) ∧ ∀ i, i ≠ 20 → I1 31 i = I 31 i) (0, 0, I) ⟨rfl, rfl, hY, fun _ _ _ => rfl, fun _ _ => rfl⟩ (by
      rintro k ⟨x, z, I'⟩ hk ⟨hx, hz, hY', hI', hI31'⟩
      left
      have hx : x = nI (sl_run c X s sv k).1 := hx
      have hz : z = nI k := hz
      subst hx
      subst hz
      have hY' : pv_Y c (sl_run c X s sv k).2.1 (sl_run c X s sv k).2.2 cv I' := hY'
      have hI' : ∀ q, q ≠ 31 → (q < 38 ∨ 47 ≤ q) → I' q = I q := hI'
      have hI31' : ∀ i, i ≠ 20 → I' 31 i = I 31 i := hI31'
      obtain ⟨hBk, hk1, hk2⟩ := sl_runB (X := X) hB k
      have hfit := hj.2.1 k hk
      have c0 : ¬ nI N ≤ nI k := nI_ge (by omega) (by omega)
      have ep : (40 : Int32) * nI q + nI a + 5 * nI k = nI (40 * q + (a + 5 * k)) := by
        rw [show (40 : Int32) = nI 40 from rfl, show (5 : Int32) = nI 5 from rfl, pk_mul, pk_mul, nI_add, nI_add, Nat.add_assoc]
      have ec : nI a ≤ (nI m - 5 * nI k) - 5 := by
        rw [show (5 : Int32) = nI 5 from rfl, pk_mul, pk_sub (by omega), pk_sub (by omega)]
        exact nI_le (by omega) (by omega)
      have hrd : ∀ i, i < 5 → rk_rd I' 56 160 (nI (40 * q + (a + 5 * k) + i)) = some (X (5 * k + i)) := fun i hi => by
        rw [pr_rd (by omega) (by omega), hI' 56 (by omega) (by omega), ← hX _ (by omega), show 40 * q + (a + 5 * k) + i = 40 * q + (a + (5 * k + i)) by omega]
      have h0 := hrd 0 (by omega)
      have h1 := hrd 1 (by omega)
      have h2' := hrd 2 (by omega)
      have h3 := hrd 3 (by omega)
      have h4 := hrd 4 (by omega)
      rw [Nat.add_zero, Nat.add_zero] at h0
      have st : ∀ (v : Int32) (I'' : rk_I), f_X10_sale I' (X (5 * k)) (X (5 * k + 1)) (X (5 * k + 2)) (X (5 * k + 3)) (X (5 * k + 4)) = some (v, I'') → f_X10_sales_l75 I' (nI q) (nI a) (nI N) (nI (sl_run c X s sv k).1) (nI k) = (if v < 0 then some (.inl (nI (sl_run c X s sv k).1 + 0, nI (k + 1), I'')) else some (.inl (nI ((sl_run c X s sv k).1 + 1), nI (k + 1), I''))) := fun v I'' he => by
        unfold f_X10_sales_l75
        rw [if_neg c0, if_neg (nI_pos (by omega)), pr_rd hq (by omega), hI' 55 (by omega) (by omega), h55, pr_sb, if_pos ec, ep, h0, pr_sb, nI_1 (40 * q + (a + 5 * k)), h1, pr_sb, show (2 : Int32) = nI 2 from rfl, show (3 : Int32) = nI 3 from rfl, show (4 : Int32) = nI 4 from rfl, nI_add, nI_add, nI_add, h2', pr_sb, h3, pr_sb, h4, pr_sb, he, pr_b2, nI_1, nI_1]
      rcases cm_sale hBk hY' (X (5 * k)) (X (5 * k + 1)) (X (5 * k + 2)) (X (5 * k + 3)) (X (5 * k + 4)) with ⟨g1, g2⟩ | ⟨g1, g1', g2⟩ | ⟨g1, g1', I1, g2, g3, g4, g5⟩
      · have hr := sl_run0 (c := c) (X := X) (s := s) (sv := sv) (k := k) (fun z => g1 z.1)
        refine ⟨(nI (sl_run c X s sv k).1, nI (k + 1), I'), ?_, ?_⟩
        · show f_X10_sales_l75 I' (nI q) (nI a) (nI N) (nI (sl_run c X s sv k).1) (nI k) = _
          rw [st _ _ g2, if_pos (by decide), Int32.add_zero]
        · rw [hr]
          exact ⟨rfl, rfl, hY', hI', hI31'⟩
      · have hr := sl_run0 (c := c) (X := X) (s := s) (sv := sv) (k := k) (fun z => by have := z.2; omega)
        refine ⟨(nI (sl_run c X s sv k).1, nI (k + 1), I'), ?_, ?_⟩
        · show f_X10_sales_l75 I' (nI q) (nI a) (nI N) (nI (sl_run c X s sv k).1) (nI k) = _
          rw [st _ _ g2, if_pos (by decide), Int32.add_zero]
        · rw [hr]
          exact ⟨rfl, rfl, hY', hI', hI31'⟩
      · have hr := sl_run1 (c := c) (X := X) (s := s) (sv := sv) (k := k) ⟨g1, g1'⟩
        refine ⟨(nI ((sl_run c X s sv k).1 + 1), nI (k + 1), I1), ?_, ?_⟩
        · show f_X10_sales_l75 I' (nI q) (nI a) (nI N) (nI (sl_run c X s sv k).1) (nI k) = _
          rw [st _ _ g2, if_neg (nI_pos (by omega))]
        · rw [hr]
          refine ⟨rfl, rfl, g3, fun q' a' b' => ?_, fun i hi => ?_⟩
          · show I1 q' = _
            rw [g4 q' a' b']
            exact hI' q' a' b'
          · show I1 31 i = _
            rw [g5 i hi]
            exact hI31' i hi) (by
      rintro ⟨x, z, I'⟩ ⟨hx, hz, hY', hI', hI31'⟩
      have hx : x = nI (sl_run c X s sv j).1 := hx
      have hz : z = nI j := hz
      subst hx
      subst hz
      have hI' : ∀ q, q ≠ 31 → (q < 38 ∨ 47 ≤ q) → I' q = I q := hI'
      refine ⟨_, ?_, I', rfl, hY', hI', hI31'⟩
      show f_X10_sales_l75 I' (nI q) (nI a) (nI N) (nI (sl_run c X s sv j).1) (nI j) = _
      unfold f_X10_sales_l75
      by_cases hjn : j = N
      · rw [if_pos (nI_le (by omega) (by omega)), if_pos hjn]
      · have hout := hj.2.2 (by omega)
        have ec : ¬ nI a ≤ (nI m - 5 * nI j) - 5 := by
          have l5j : (5 * nI j).toInt = 5 * (j : Int) := by rw [show (5 : Int32) = nI 5 from rfl, pk_mul, nI_toInt (by omega)]; omega
          have e1 : (nI m - 5 * nI j).toInt = (m : Int) - 5 * j := by rw [fb_subI (by rw [l5j, nI_toInt (by omega)]; omega) (by rw [l5j, nI_toInt (by omega)]; omega), l5j, nI_toInt (by omega)]
          rw [fa_le, fb_subI (by rw [e1, l5]; omega) (by rw [e1, l5]; omega), e1, l5, nI_toInt (by omega)]
          omega
        rw [if_neg (nI_ge (by omega) (by omega)), if_neg (nI_pos (by omega)), pr_rd hq (by omega), hI' 55 (by omega) (by omega), h55, pr_sb, if_neg ec, if_neg hjn])
  obtain ⟨I1, rfl, w2⟩ := w
  exact ⟨I1, e1, w2⟩
