theorem cp_iv {n : Nat} {S : rk_Sh} {I : rk_I} {R : rk_R} (h : iv n S I R) {q p i j m w v1 v2 : Nat} (hq : q < 4) (hp : p < 4) (e1 : I 53 q = 1) (e2 : I 53 p = 1) (w1 : w < 3) (a1 : v1 ≤ 40) (a2 : v2 ≤ 40) (d1 : I 55 q = nI v1) (d2 : I 55 p = nI v2) (hi : i + m ≤ v1) (hj : j + m ≤ v2) {K : rk_I} (y : ∀ k, k ≠ 21 + 2 * p → K k = I k) (yp : K (21 + 2 * p) = va_cpy (I (21 + 2 * q)) (I (21 + 2 * p)) i j m) : iv n S (cp_D K (40 * q + i) (40 * p + j) (40 * p + j) (40 * p + j + m)) R := by
  have h' := h
  obtain ⟨c, s, t, r, oc, os, ot, sv, cv, h1, h2, h3, h4, h5, h6, h7, h8, h9, h10, h11⟩ := h
  have z : ∀ (K : rk_I) k x, k ≠ 56 → cp_D K (40 * q + i) (40 * p + j) (40 * p + j) (40 * p + j + m) k x = K k x := fun K k x hk => by
    unfold cp_D
    rw [if_neg (fun w => hk w.1)]
  have zf : ∀ (K : rk_I) k, k ≠ 56 → cp_D K (40 * q + i) (40 * p + j) (40 * p + j) (40 * p + j + m) k = K k := fun K k hk => funext (fun x => z K k x hk)
  have s1 : ∀ x, x < v1 → I (21 + 2 * q) x = I 56 (40 * q + x) := fun x hx => by
    rcases h10 q hq with ⟨g1, g2⟩ | ⟨g1, w', m', b1, b2, b3, b4, b5, b6, b7⟩
    · rw [g2] at e1; exact absurd e1 (by decide)
    · rw [b6] at d1
      exact b7 x (by have := (nI_eq (by omega) (by omega)).mp d1; omega)
  refine iv_FH h' (fun k x _ b1 b2 b3 b4 b5 b6 => ?_) (mF h9 ?_ ?_ ?_ ?_) (fun o ho => ?_) (kR_r _)
  · rw [zf _ _ (by omega), y _ (by omega)]
  · rw [zf _ _ (by omega), y _ (by omega)]
  · rw [zf _ _ (by omega), y _ (by omega)]
  · rw [zf _ _ (by omega), y _ (by omega)]
  · rw [zf _ _ (by omega), y _ (by omega)]
  · rw [zf _ (20 + 2 * o) (by omega), zf _ (21 + 2 * o) (by omega), zf _ 53 (by omega), zf _ 54 (by omega), zf _ 55 (by omega), y (20 + 2 * o) (by omega), y 53 (by omega), y 54 (by omega), y 55 (by omega)]
    rcases h10 o ho with g | ⟨g1, w', m', b1, b2, b3, b4, b5, b6, b7⟩
    · exact Or.inl g
    · right
      refine ⟨g1, w', m', b1, b2, b3, b4, b5, b6, fun x hx => ?_⟩
      by_cases hop : o = p
      · subst hop
        have hm' : m' = v2 := by
          rw [b6] at d2
          exact (nI_eq (by omega) (by omega)).mp d2
        subst hm'
        rw [yp]
        unfold cp_D
        by_cases hx2 : j ≤ x ∧ x < j + m
        · rw [pk_cpy_in hx2.1 hx2.2, if_pos (by omega), y 56 (by omega), s1 _ (by omega), show 40 * q + (i + (x - j)) = 40 * q + i + (40 * o + x - (40 * o + j)) by omega]
        · rw [pk_cpy_out (by omega), if_neg (by omega), y 56 (by omega)]
          exact b7 x hx
      · rw [y (21 + 2 * o) (by omega), b7 x hx]
        unfold cp_D
        rw [if_neg (by omega), y 56 (by omega)]
set_option maxHeartbeats 4000000 in
theorem ck_copy {n : Nat} {S : rk_Sh} {I : rk_I} {R : rk_R} (h : iv n S I R) (a b d e f : Int32) : ∃ v I1 I2, f_X9_copy S I R a b d e f = some (v, I1) ∧ f_X10_copy I1 a b d e f = some (v, I2) ∧ iv n S I2 R := by
  have h' := h
  obtain ⟨c, s, t, r, oc, os, ot, sv, cv, h1, h2, h3, h4, h5, h6, h7, h8, h9, h10, h11⟩ := h
  have bad : ∀ x, f_X9_copy S I R a b d e f = some (x, I) → f_X10_copy I a b d e f = some (x, I) → ∃ v I1 I2, f_X9_copy S I R a b d e f = some (v, I1) ∧ f_X10_copy I1 a b d e f = some (v, I2) ∧ iv n S I2 R := fun x P Q => ⟨x, I, I, P, Q, h'⟩
  rcases pg_sheet h1 a with ⟨q, q1, rfl, q3, q4⟩ | ⟨q3, q4⟩
  · rcases pg_sheet h1 d with ⟨p, p1, rfl, p3, p4⟩ | ⟨p3, p4⟩
    · have hQ := sh_C h1 q1
      have hP := sh_C h1 p1
      have kq : rk_ck S (20 + 2 * q) 6 3 = some () := pr_ck hQ.1
      have kp' : rk_ck S (20 + 2 * p) 6 3 = some () := pr_ck hP.1
      rcases h10 q q1 with ⟨g1, g2⟩ | ⟨g1, w, m, w1, w2, w3, w4, w5, w6, w7⟩
      · refine bad (-11) ?_ ?_
        · unfold f_X9_copy
          rw [q3, pr_sb, p3, pr_sb, pr_oc1, pr_oc1, kq, pr_sb, if_pos g1]
        · unfold f_X10_copy
          rw [q4, pr_sb, if_neg (by decide), p4, pr_sb, if_neg (by decide), pr_rd q1 (by omega), g2]; rfl
      · have e1 : ¬ I (20 + 2 * q) 1 = -1 := by rw [w3]; exact sh_m1 w1
        rcases h10 p p1 with ⟨u1, u2⟩ | ⟨u1, y, z, y1, y2, y3, y4, y5, y6, y7⟩
        · refine bad (-11) ?_ ?_
          · unfold f_X9_copy
            rw [q3, pr_sb, p3, pr_sb, pr_oc1, pr_oc1, kq, pr_sb, if_neg e1, kp', pr_sb, if_pos u1]
          · unfold f_X10_copy
            rw [q4, pr_sb, if_neg (by decide), p4, pr_sb, if_neg (by decide), pr_rd q1 (by omega), g1, pr_sb, if_neg (by decide), pr_rd p1 (by omega), u2]; rfl
        · have e2 : ¬ I (20 + 2 * p) 1 = -1 := by rw [y3]; exact sh_m1 y1
          have A : f_X9_copy S I R (nI q) b (nI p) e f = (if nI w = nI y then (f_X6_has I (20 + 2 * q) b f).bind fun x1 => if x1 = 0 then some (-12, I) else (f_X6_has I (20 + 2 * p) e f).bind fun x2 => if x2 = 0 then some (-12, I) else (rk_cp I (21 + 2 * q) 40 (21 + 2 * p) 40 b e f).bind fun I1 => some (f, I1) else some (-13, I)) := by
            unfold f_X9_copy
            rw [q3, pr_sb, p3, pr_sb, pr_oc1, pr_oc1, kq, pr_sb, if_neg e1, kp', pr_sb, if_neg e2, w3, y3, pr_sb, pr_sb, hQ.2.2.2, hP.2.2.2, pr_sb, pr_sb, pr_al hQ.2.1, pr_al hP.2.1, pr_sb, pr_sb]
          have B : ∀ K : rk_I, K 53 = I 53 → K 54 = I 54 → K 55 = I 55 → f_X10_copy K (nI q) b (nI p) e f = (if nI w = nI y then (if f < 0 then some (-12, K) else if b < 0 then some (-12, K) else if e < 0 then some (-12, K) else if (nI m - f) < b then some (-12, K) else if e ≤ (nI z - f) then (if nI q = nI p then (if e ≤ b then f_X10_copy_j115 K (nI q) b (nI p) e f else f_X10_copy_j116 K (nI q) b (nI p) e f 1) else f_X10_copy_j115 K (nI q) b (nI p) e f) else some (-12, K)) else some (-13, K)) := by
            intro K k3 k4 k5
            unfold f_X10_copy
            rw [q4, pr_sb, if_neg (by decide), p4, pr_sb, if_neg (by decide), pr_rd q1 (by omega), k3, g1, pr_sb, if_neg (by decide), pr_rd p1 (by omega), k3, u1, pr_sb, if_neg (by decide), pr_rd q1 (by omega), pr_rd p1 (by omega), k4, w4, y4, pr_sb, pr_sb, pr_rd q1 (by omega), pr_rd p1 (by omega), k5, w6, y6, pr_sb, pr_sb]
          have hH : ∀ (o : Nat) (mm : Nat) (x g : Int32), I (20 + 2 * o) 2 = nI mm → f_X6_has I (20 + 2 * o) x g = (if g < 0 then some 0 else if x < 0 then some 0 else if (nI mm - g) < x then some 0 else some 1) := fun o mm x g hh => by
            unfold f_X6_has
            rw [hh]
          by_cases hs : w = y
          · subst hs
            rw [if_pos rfl, hH q m b f w5, hH p z e f y5] at A
            have B' := B I rfl rfl rfl
            rw [if_pos rfl] at B'
            by_cases c1 : f < 0
            · exact bad (-12) (by rw [A, if_pos c1]; rfl) (by rw [B', if_pos c1])
            · by_cases c2 : b < 0
              · exact bad (-12) (by rw [A, if_neg c1, if_pos c2]; rfl) (by rw [B', if_neg c1, if_pos c2])
              · by_cases c4 : (nI m - f) < b
                · refine bad (-12) (by rw [A, if_neg c1, if_neg c2, if_pos c4]; rfl) ?_
                  rw [B', if_neg c1, if_neg c2]
                  by_cases c3 : e < 0
                  · rw [if_pos c3]
                  · rw [if_neg c3, if_pos c4]
                · by_cases c3 : e < 0
                  · exact bad (-12) (by rw [A, if_neg c1, if_neg c2, if_neg c4, pr_sb, if_neg (by decide), if_neg c1, if_pos c3]; rfl) (by rw [B', if_neg c1, if_neg c2, if_pos c3])
                  · by_cases c5 : (nI z - f) < e
                    · refine bad (-12) (by rw [A, if_neg c1, if_neg c2, if_neg c4, pr_sb, if_neg (by decide), if_neg c1, if_neg c3, if_pos c5]; rfl) ?_
                      rw [B', if_neg c1, if_neg c2, if_neg c3, if_neg c4, if_neg]
                      rw [fa_lt] at c5
                      rw [fa_le]
                      omega
                    · obtain ⟨k, k1, rfl⟩ := nI_of c1
                      obtain ⟨i, i1, rfl⟩ := nI_of c2
                      obtain ⟨j, j1, rfl⟩ := nI_of c3
                      have ti : ∀ x : Nat, x < 2 ^ 31 → (nI x).toInt = (x : Int) := fun x hx => nI_toInt hx
                      rw [fa_lt, fb_subI (by rw [ti _ k1, ti m (by omega)]; omega) (by rw [ti _ k1, ti m (by omega)]; omega), ti _ k1, ti m (by omega), ti _ i1] at c4
                      rw [fa_lt, fb_subI (by rw [ti _ k1, ti z (by omega)]; omega) (by rw [ti _ k1, ti z (by omega)]; omega), ti _ k1, ti z (by omega), ti _ j1] at c5
                      have l1 : i + k ≤ m := by omega
                      have l2 : j + k ≤ z := by omega
                      have c4' : ¬ (nI m - nI k) < nI i := by rw [pk_sub (by omega)]; exact nI_nlt (by omega) (by omega)
                      have c5' : ¬ (nI z - nI k) < nI j := by rw [pk_sub (by omega)]; exact nI_nlt (by omega) (by omega)
                      have c5'' : nI j ≤ (nI z - nI k) := by rw [pk_sub (by omega)]; exact nI_le (by omega) (by omega)
                      rw [if_neg c1, if_neg c2, if_neg c4', pr_sb, if_neg (by decide), if_neg c1, if_neg c3, if_neg c5', pr_sb, if_neg (by decide), pr_cp (by omega) (by omega) (by omega) (by omega), pr_sb] at A
                      obtain ⟨K, hK⟩ : ∃ K : rk_I, K = (fun k' => if k' = 21 + 2 * p then va_cpy (I (21 + 2 * q)) (I (21 + 2 * p)) i j k else I k') := ⟨_, rfl⟩
                      rw [← hK] at A
                      have ky : ∀ k', k' ≠ 21 + 2 * p → K k' = I k' := fun k' hk => by rw [hK]; exact if_neg hk
                      have kyp : K (21 + 2 * p) = va_cpy (I (21 + 2 * q)) (I (21 + 2 * p)) i j k := by rw [hK]; exact if_pos rfl
                      refine ⟨nI k, K, cp_D K (40 * q + i) (40 * p + j) (40 * p + j) (40 * p + j + k), A, ?_, cp_iv h' q1 p1 g1 u1 w1 w2 y2 w6 y6 l1 l2 ky kyp⟩
                      have B2 := B K (ky 53 (by omega)) (ky 54 (by omega)) (ky 55 (by omega))
                      rw [B2, if_pos rfl, if_neg c1, if_neg c2, if_neg c3, if_neg c4', if_pos c5'']
                      by_cases hqp : q = p
                      · rw [if_pos (by rw [hqp])]
                        by_cases hji : j ≤ i
                        · rw [if_pos (nI_le hji (by omega))]
                          unfold f_X10_copy_j115
                          exact cp_run q1 p1 (by omega) (by omega) 0 (Or.inl ⟨rfl, Or.inr hji⟩)
                        · rw [if_neg (nI_ge (by omega) (by omega))]
                          exact cp_run q1 p1 (by omega) (by omega) 1 (Or.inr ⟨rfl, hqp, by omega⟩)
                      · rw [if_neg (fun w => hqp ((nI_eq (by omega) (by omega)).mp w))]
                        unfold f_X10_copy_j115
                        exact cp_run q1 p1 (by omega) (by omega) 0 (Or.inl ⟨rfl, Or.inl hqp⟩)
          · have hs' : ¬ nI w = nI y := fun x => hs ((nI_eq (by omega) (by omega)).mp x)
            rw [if_neg hs'] at A
            have B' := B I rfl rfl rfl
            rw [if_neg hs'] at B'
            exact bad (-13) A B'
    · refine bad (-2) ?_ ?_
      · unfold f_X9_copy
        rw [q3, pr_sb, p3, pr_sb, pr_oc1, pr_oc0]
      · unfold f_X10_copy
        rw [q4, pr_sb, if_neg (by decide), p4]; rfl
  · refine bad (-2) ?_ ?_
    · unfold f_X9_copy
      rcases pg_sheet h1 d with ⟨p, p1, rfl, p3, p4⟩ | ⟨p3, p4⟩
      · rw [q3, pr_sb, p3]; rfl
      · rw [q3, pr_sb, p3]; rfl
    · unfold f_X10_copy
      rw [q4]; rfl
