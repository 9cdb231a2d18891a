theorem ck_image {n : Nat} {S : rk_Sh} {I : rk_I} {R : rk_R} (h : iv n S I R) : ∃ v I1 I2, f_X9_image S I R = some (v, I1) ∧ f_X10_image I1 = some (v, I2) ∧ iv n S I2 R := by
  obtain ⟨c, s, t, r, oc, os, ot, sv, cv, h1, h2, h3, h4, h5, h6, h7, h8, h9, h10, h11⟩ := h
  obtain ⟨I1, e1, a1, a2, a3, a4, a5, a6, a7, a8⟩ := im_c h5 h6
  have hdT := fun q hq => pv_dT h6.2.2.2.2 h6.2.2.2.1 h8 (q := q) hq
  obtain ⟨hO, x1, x2, x3, x4⟩ := h6
  have w1 : ∀ k, k < 57 → k ≠ 0 → I1 k = I k := fun k hk hk0 => funext (fun i => a1 k i hk0 (fun j hj e => by have := hO.1 j hj; omega) (fun j hj e => by have := hO.2.1 j hj; omega))
  obtain ⟨I2, e2, b1, b2, b3, b4, b5, b6, b7, b8⟩ := im_m (I := I1) h5 (by rw [w1 31 (by omega) (by omega)]; exact h7.1) (by rw [w1 31 (by omega) (by omega)]; exact h7.2.1)
  refine ⟨nI s, I1, I2, e1, e2, ?_⟩
  have W : ∀ k, k < 57 → k ≠ 0 → k ≠ 31 → k ≠ 50 → k ≠ 51 → k ≠ 52 → I2 k = I k := fun k hk k0 a b d e => by
    funext i
    rw [b1 k i a b d e, w1 k hk k0]
  have W0 : ∀ i, i ≠ 13 → i ≠ 14 → i ≠ 15 → i ≠ 16 → I2 0 i = I 0 i := fun i a b d e => by rw [b1 0 i (by omega) (by omega) (by omega) (by omega), a2 i a b d e]
  have W31 : ∀ i, i ≠ 38 → i ≠ 39 → i ≠ 40 → i ≠ 41 → I2 31 i = I 31 i := fun i a b d e => by rw [b2 i a b d e, w1 31 (by omega) (by omega)]
  have Wb : ∀ k i, 57 ≤ k → I2 k i = I1 k i := fun k i hk => b1 k i (by omega) (by omega) (by omega) (by omega)
  have Wc : ∀ j, j < c → I2 (oc j) = I (oc j) ∧ I2 (oc j + 1) = I (oc j + 1) := fun j hj => by
    have := hO.1 j hj
    refine ⟨funext (fun i => ?_), funext (fun i => ?_)⟩
    · rw [Wb _ _ (by omega)]
      exact a1 _ i (by omega) (fun q hq => (pv_dC x4 hj hq).2) (fun q hq => Ne.symm (pv_dS x4 x3 hj hq).1)
    · rw [Wb _ _ (by omega)]
      exact a1 _ i (by omega) (fun q hq e => (pv_dC x4 hj hq).1 (by omega)) (fun q hq => Ne.symm (pv_dS x4 x3 hj hq).2.1)
  refine ⟨c, s, t, r, oc, os, ot, sv, cv, h1, h2, h3, h4, h5, ⟨hO, ?_, ?_, fun k hk => ?_, fun k hk => ?_⟩, ?_, ?_, ?_, ?_, ?_⟩
  · rw [W0 1 (by omega) (by omega) (by omega) (by omega)]; exact x1
  · rw [W0 3 (by omega) (by omega) (by omega) (by omega)]; exact x2
  · have hb := hO.2.1 k hk
    obtain ⟨q1, -, -⟩ := a8 k hk
    rw [Wb _ _ hb.1, Wb _ _ hb.1, Wb _ _ hb.1, Wb _ _ hb.1, Wb _ _ hb.1, Wb _ _ hb.1, Wb _ _ hb.1, Wb _ _ hb.1, q1 0 (by omega) (by omega), q1 2 (by omega) (by omega), q1 3 (by omega) (by omega), q1 4 (by omega) (by omega), q1 5 (by omega) (by omega), q1 6 (by omega) (by omega), q1 7 (by omega) (by omega), q1 8 (by omega) (by omega)]
    exact x3 k hk
  · obtain ⟨q1, q2⟩ := Wc k hk
    rw [q1, q2]
    exact x4 k hk
  · exact mY h7 (W31 10 (by omega) (by omega) (by omega) (by omega)) (W31 20 (by omega) (by omega) (by omega) (by omega)) (fun k _ _ => W k (by omega) (by omega) (by omega) (by omega) (by omega) (by omega))
  · refine mT h8 (Nat.le_refl _) h3 (W0 5 (by omega) (by omega) (by omega) (by omega)) (W0 6 (by omega) (by omega) (by omega) (by omega)) (W31 3 (by omega) (by omega) (by omega) (by omega)) (W31 4 (by omega) (by omega) (by omega) (by omega)) (W 32 (by omega) (by omega) (by omega) (by omega) (by omega) (by omega)) (W 33 (by omega) (by omega) (by omega) (by omega) (by omega) (by omega)) (fun _ _ => ⟨rfl, rfl, rfl⟩) (fun q hq => ?_) (fun _ _ => rfl) rfl
    obtain ⟨d1, d2⟩ := hdT q hq
    rcases (h8.2.2.2.2.2.2.2 q hq).2.1 with e | e
    · rw [e]
      exact ⟨W 29 (by omega) (by omega) (by omega) (by omega) (by omega) (by omega), W 30 (by omega) (by omega) (by omega) (by omega) (by omega) (by omega)⟩
    · refine ⟨funext (fun i => ?_), funext (fun i => ?_)⟩
      · rw [Wb _ _ (by omega)]
        exact a1 _ i (by omega) (fun j hj => (d2 j hj).2.1.2.2) (fun j hj => (d1 j hj).2.1)
      · rw [Wb _ _ (by omega)]
        exact a1 _ i (by omega) (fun j hj => (d2 j hj).2.2.2.2) (fun j hj => (d1 j hj).2.2)
  · exact mF h9 (by rw [W 4 (by omega) (by omega) (by omega) (by omega) (by omega) (by omega)]) (W31 6 (by omega) (by omega) (by omega) (by omega)) (W 5 (by omega) (by omega) (by omega) (by omega) (by omega) (by omega)) (W 34 (by omega) (by omega) (by omega) (by omega) (by omega) (by omega))
  · exact mH h10 (fun k _ _ => W k (by omega) (by omega) (by omega) (by omega) (by omega) (by omega)) (fun k _ _ => W k (by omega) (by omega) (by omega) (by omega) (by omega) (by omega))
  · have y45 : ∀ j, I1 45 j = I 45 j := fun j => by rw [w1 45 (by omega) (by omega)]
    have y46 : ∀ j, I1 46 j = I 46 j := fun j => by rw [w1 46 (by omega) (by omega)]
    have y37 : ∀ j, I1 37 j = I 37 j := fun j => by rw [w1 37 (by omega) (by omega)]
    refine ⟨1, c, s, r, by omega, ?_, b3, Nat.le_refl _, ?_, b4, Nat.le_refl _, ?_, b5, h8.2.2.2.2.1, ?_, ?_, fun k hk => ?_, fun k hk j hj => ?_⟩
    · rw [b1 0 _ (by omega) (by omega) (by omega) (by omega)]; exact a3
    · rw [b1 0 _ (by omega) (by omega) (by omega) (by omega)]; exact a4
    · rw [b1 0 _ (by omega) (by omega) (by omega) (by omega)]; exact a5
    · rw [b1 0 _ (by omega) (by omega) (by omega) (by omega), a6]; exact h8.2.2.2.2.2.1
    · rw [b6, w1 31 (by omega) (by omega)]; exact h8.2.2.2.2.2.2.1
    · have hb := hO.2.1 k hk
      obtain ⟨-, q1, q2⟩ := a8 k hk
      obtain ⟨r1, r2⟩ := b8 k hk
      have g := x3 k hk
      have gm := h7.2.2.1 k hk
      have gb := h5.2.2.1 k hk
      refine ⟨sv k 7, sv k 8, gb.2.2.2.2.2.2.2.2.2.1, gb.2.2.2.2.2.2.2.2.2.2, ?_, ?_, ?_, ?_⟩
      · rw [Wb _ _ hb.1, q1]; exact g.2.2.2.2.2.2.2.2.2.1
      · rw [r1, y45]; exact gm.2.2.2.2.2.2.2.1
      · rw [Wb _ _ hb.1, q2]; exact g.2.2.2.2.2.2.2.2.2.2
      · rw [r2, y46]; exact gm.2.2.2.2.2.2.2.2
    · have hb := hO.1 k hk
      refine ⟨cv k (2 + j), (h5.2.2.2 k hk).2.2.2 j hj, ?_, ?_⟩
      · rw [Wb _ _ (by omega), a7 k hk j hj]
        exact (x4 k hk).2.2.2.2.2.2.2.2.2 j hj
      · rw [b7 _ (by omega), y37]
        exact (h7.2.2.2 k hk).2.2 j hj
/-! back -/
theorem bk_c {n c s ic is : Nat} {oc os : Nat → Nat} {sv cv : pv_V} {S : rk_Sh} {I : rk_I} {R : rk_R} (hB : pv_B c s sv cv) (hX : pv_X n c s oc os sv cv S I R) (hic : ic ≤ c) (his : is ≤ s) (h13 : ¬ I 0 13 = 0) (h14 : I 0 14 = nI ic) (h15 : I 0 15 = nI is) : ∃ I', f_X9_back S I R = some (nI s, I') ∧ (∀ q i, q ≠ 0 → (∀ j, j < ic → q ≠ oc j + 1) → (∀ j, j < is → q ≠ os j) → I' q i = I q i) ∧ (∀ i, i ≠ 6 → I' 0 i = I 0 i) ∧ I' 0 6 = I 0 16 ∧ (∀ j, j < ic → ∀ i, i < 3 → I' (oc j + 1) i = I (oc j + 2) i) ∧ ∀ j, j < is → (∀ i, i ≠ 7 → i ≠ 8 → I' (os j) i = I (os j) i) ∧ I' (os j) 7 = I (os j) 9 ∧ I' (os j) 8 = I (os j) 10 := by
  obtain ⟨hO, x1, x2, x3, x4⟩ := hX
  have hc := hB.1
  have hs := hB.2.1
  obtain ⟨⟨z1, I1⟩, e1, p1, p2⟩ := pr_for0 (f := fun a9 : Int32 × rk_I => f_X9_back_l12 S a9.2 R a9.1) (fun k a => a.1 = nI k ∧ (∀ q i, (∀ j, j < k → q ≠ oc j + 1) → a.2 q i = I q i) ∧ ∀ j, j < k → ∀ i, i < 3 → a.2 (oc j + 1) i = I (oc j + 2) i) ic (fun b => (∀ q i, (∀ j, j < ic → q ≠ oc j + 1) → b.2 q i = I q i) ∧ ∀ j, j < ic → ∀ i, i < 3 → b.2 (oc j + 1) i = I (oc j + 2) i) (0, I) ⟨rfl, fun _ _ _ => rfl, fun j hj => absurd hj (Nat.not_lt_zero j)⟩ (by
      rintro k ⟨x, K⟩ hk ⟨hx, h1, h2⟩
      left
      have hx : x = nI k := hx
      have h1 : ∀ q i, (∀ j, j < k → q ≠ oc j + 1) → K q i = I q i := h1
      have h2 : ∀ j, j < k → ∀ i, i < 3 → K (oc j + 1) i = I (oc j + 2) i := h2
      subst hx
      obtain ⟨g0, g1, g2, g3, g4, g5, -⟩ := x4 k (by omega)
      have a0 : K 0 14 = nI ic := (h1 0 14 (fun j hj => by omega)).trans h14
      have o1 : ∀ i, K (oc k + 2) i = I (oc k + 2) i := fun i => h1 _ i (fun j hj e => (pv_dC x4 (by omega : j < c) (by omega : k < c)).1 (by omega))
      refine ⟨(nI (k + 1), fun k' => if k' = oc k + 1 then va_cpy (K (oc k + 2)) (K (oc k + 1)) 0 0 3 else K k'), ?_, rfl, fun q i hq => ?_, fun j hj i hi => ?_⟩
      · show f_X9_back_l12 S K R (nI k) = _
        unfold f_X9_back_l12 f_X0_layBack
        rw [a0, if_neg (nI_ge hk (by omega)), pr_rdR (by omega) (by omega), g0, pr_sb, pr_dr g1, pr_sb, pr_sb, pr_sb, g4, g5, pr_sb, pr_sb, im_cp g3 g2, pr_sb, nI_1]
      · show (if q = oc k + 1 then va_cpy (K (oc k + 2)) (K (oc k + 1)) 0 0 3 else K q) i = _
        rw [if_neg (hq k (by omega))]
        exact h1 q i (fun j hj => hq j (by omega))
      · show (if oc j + 1 = oc k + 1 then va_cpy (K (oc k + 2)) (K (oc k + 1)) 0 0 3 else K (oc j + 1)) i = _
        by_cases hjk : j = k
        · subst hjk
          rw [if_pos rfl, pk_cpy_in (by omega) (by omega), o1, show 0 + (i - 0) = i by omega]
        · rw [if_neg (fun e => hjk (hO.2.2.1 j k (by omega) (by omega) (by omega)))]
          exact h2 j (by omega) i hi) (by
      rintro ⟨x, K⟩ ⟨hx, h1, h2⟩
      have hx : x = nI ic := hx
      have h1 : ∀ q i, (∀ j, j < ic → q ≠ oc j + 1) → K q i = I q i := h1
      subst hx
      have a0 : K 0 14 = nI ic := (h1 0 14 (fun j hj => by omega)).trans h14
      refine ⟨(nI ic, K), ?_, h1, h2⟩
      show f_X9_back_l12 S K R (nI ic) = _
      unfold f_X9_back_l12
      rw [a0, if_pos (nI_le (Nat.le_refl _) (by omega))])
  have p1 : ∀ q i, (∀ j, j < ic → q ≠ oc j + 1) → I1 q i = I q i := p1
  have p2 : ∀ j, j < ic → ∀ i, i < 3 → I1 (oc j + 1) i = I (oc j + 2) i := p2
  have b0 : ∀ i, I1 0 i = I 0 i := fun i => p1 0 i (fun j hj => by omega)
  have bs : ∀ j, j < s → ∀ i, I1 (os j) i = I (os j) i := fun j hj i => p1 _ i (fun q hq => (pv_dS x4 x3 (by omega : q < c) hj).2.1)
  obtain ⟨⟨z2, I2⟩, e2, p3, p4⟩ := pr_for0 (f := fun a9 : Int32 × rk_I => f_X9_back_l37 S a9.2 R a9.1) (fun k a => a.1 = nI k ∧ (∀ q i, (∀ j, j < k → q ≠ os j) → a.2 q i = I1 q i) ∧ ∀ j, j < k → (∀ i, i ≠ 7 → i ≠ 8 → a.2 (os j) i = I1 (os j) i) ∧ a.2 (os j) 7 = I1 (os j) 9 ∧ a.2 (os j) 8 = I1 (os j) 10) is (fun b => (∀ q i, (∀ j, j < is → q ≠ os j) → b.2 q i = I1 q i) ∧ ∀ j, j < is → (∀ i, i ≠ 7 → i ≠ 8 → b.2 (os j) i = I1 (os j) i) ∧ b.2 (os j) 7 = I1 (os j) 9 ∧ b.2 (os j) 8 = I1 (os j) 10) (0, I1) ⟨rfl, fun _ _ _ => rfl, fun j hj => absurd hj (Nat.not_lt_zero j)⟩ (by
      rintro k ⟨x, K⟩ hk ⟨hx, h1, h2⟩
      left
      have hx : x = nI k := hx
      have h1 : ∀ q i, (∀ j, j < k → q ≠ os j) → K q i = I1 q i := h1
      have h2 : ∀ j, j < k → (∀ i, i ≠ 7 → i ≠ 8 → K (os j) i = I1 (os j) i) ∧ K (os j) 7 = I1 (os j) 9 ∧ K (os j) 8 = I1 (os j) 10 := h2
      subst hx
      obtain ⟨g0, g1, -⟩ := x3 k (by omega)
      have a0 : K 0 15 = nI is := (h1 0 15 (fun j hj e => by have := hO.2.1 j (by omega); omega)).trans ((b0 15).trans h15)
      have ok : ∀ i, K (os k) i = I1 (os k) i := fun i => h1 _ i (fun j hj e => by have := hO.2.2.2 k j (by omega) (by omega) e; omega)
      refine ⟨(nI (k + 1), rk_ui (rk_ui K (os k) 7 (K (os k) 9)) (os k) 8 (K (os k) 10)), ?_, rfl, fun q i hq => ?_, fun j hj => ?_⟩
      · show f_X9_back_l37 S K R (nI k) = _
        unfold f_X9_back_l37 f_X5_layBack
        rw [a0, if_neg (nI_ge hk (by omega)), pr_rdR (by omega) (by omega), g0, pr_sb, pr_dr g1, pr_sb, pr_sb, pr_sb, pr_sb, nI_1, ui_n (by omega)]
      · show rk_ui (rk_ui K (os k) 7 (K (os k) 9)) (os k) 8 (K (os k) 10) q i = _
        rw [ui_o (hq k (by omega)), ui_o (hq k (by omega))]
        exact h1 q i (fun j hj => hq j (by omega))
      · show (∀ i, i ≠ 7 → i ≠ 8 → rk_ui (rk_ui K (os k) 7 (K (os k) 9)) (os k) 8 (K (os k) 10) (os j) i = I1 (os j) i) ∧ rk_ui (rk_ui K (os k) 7 (K (os k) 9)) (os k) 8 (K (os k) 10) (os j) 7 = _ ∧ rk_ui (rk_ui K (os k) 7 (K (os k) 9)) (os k) 8 (K (os k) 10) (os j) 8 = _
        by_cases hjk : j = k
        · subst hjk
          refine ⟨fun i a b => ?_, ?_, ?_⟩
          · rw [ui_n b, ui_n a, ok]
          · rw [ui_n (by omega), ui_s, ok]
          · rw [ui_s, ok]
        · have ne : os j ≠ os k := fun e => hjk (hO.2.2.2 j k (by omega) (by omega) e)
          rw [ui_o ne, ui_o ne]
          exact h2 j (by omega)) (by
      rintro ⟨x, K⟩ ⟨hx, h1, h2⟩
      have hx : x = nI is := hx
      have h1 : ∀ q i, (∀ j, j < is → q ≠ os j) → K q i = I1 q i := h1
      subst hx
      have a0 : K 0 15 = nI is := (h1 0 15 (fun j hj e => by have := hO.2.1 j (by omega); omega)).trans ((b0 15).trans h15)
      refine ⟨(nI is, K), ?_, h1, h2⟩
      show f_X9_back_l37 S K R (nI is) = _
      unfold f_X9_back_l37
      rw [a0, if_pos (nI_le (Nat.le_refl _) (by omega))])
  have p3 : ∀ q i, (∀ j, j < is → q ≠ os j) → I2 q i = I1 q i := p3
  have p4 : ∀ j, j < is → (∀ i, i ≠ 7 → i ≠ 8 → I2 (os j) i = I1 (os j) i) ∧ I2 (os j) 7 = I1 (os j) 9 ∧ I2 (os j) 8 = I1 (os j) 10 := p4
  have d0 : ∀ i, I2 0 i = I 0 i := fun i => (p3 0 i (fun j hj e => by have := hO.2.1 j (by omega); omega)).trans (b0 i)
  have nz : ∀ j, j < is → os j ≠ 0 := fun j hj e => by have := hO.2.1 j (by omega); omega
  refine ⟨rk_ui I2 0 6 (I 0 16), ?_, fun q i a b d => ?_, fun i a => ?_, ?_, fun j hj i hi => ?_, fun j hj => ?_⟩
  · unfold f_X9_back
    rw [if_neg h13, e1, pr_b2, e2, pr_b2, pr_sb, d0 16, ui_n (by omega), d0 3, x2]
  · rw [ui_o a, p3 q i d, p1 q i b]
  · rw [ui_n a, d0]
  · rw [ui_s]
  · have := hO.1 j (by omega)
    rw [ui_o (by omega), p3 _ i (fun q hq => Ne.symm (pv_dS x4 x3 (by omega : j < c) (by omega : q < s)).2.1), p2 j hj i hi]
  · have e := nz j hj
    rw [ui_o e]
    obtain ⟨q1, q2, q3⟩ := p4 j hj
    exact ⟨fun i a b => (q1 i a b).trans (bs j (by omega) i), q2.trans (bs j (by omega) 9), q3.trans (bs j (by omega) 10)⟩
theorem bk_m {c s ic is : Nat} {I : rk_I} (hc : c ≤ 4) (hs : s ≤ 24) (hic : ic ≤ c) (his : is ≤ s) (h38 : ¬ I 31 38 = 0) (h39 : I 31 39 = nI ic) (h40 : I 31 40 = nI is) (h20 : I 31 20 = nI s) : ∃ I', f_X10_back I = some (nI s, I') ∧ (∀ q i, q ≠ 31 → q ≠ 37 → q ≠ 45 → q ≠ 46 → I' q i = I q i) ∧ (∀ i, i ≠ 4 → I' 31 i = I 31 i) ∧ I' 31 4 = I 31 41 ∧ (∀ i, (i < 3 * ic → I' 37 i = I 50 i) ∧ (3 * ic ≤ i → I' 37 i = I 37 i)) ∧ ∀ j, (j < is → I' 45 j = I 51 j ∧ I' 46 j = I 52 j) ∧ (is ≤ j → I' 45 j = I 45 j ∧ I' 46 j = I 46 j) := by
  let I4 : rk_I := rk_ui I 31 4 (I 31 41)
  have i4 : ∀ q i, q ≠ 31 → I4 q i = I q i := fun q i hq => by
    show rk_ui I 31 4 (I 31 41) q i = _
    rw [ui_o hq]
  have i31 : ∀ i, i ≠ 4 → I4 31 i = I 31 i := fun i a => by
    show rk_ui I 31 4 (I 31 41) 31 i = _
    rw [ui_n a]
  obtain ⟨⟨z1, I5⟩, e1, p1, p2⟩ := pr_for0 (f := fun a9 : Int32 × rk_I => f_X10_back_l20 a9.2 a9.1) (fun k a => a.1 = nI k ∧ (∀ q i, q ≠ 37 → a.2 q i = I4 q i) ∧ ∀ i, (i < k → a.2 37 i = I 50 i) ∧ (k ≤ i → a.2 37 i = I 37 i)) (3 * ic) (fun b => (∀ q i, q ≠ 37 → b.2 q i = I4 q i) ∧ ∀ i, (i < 3 * ic → b.2 37 i = I 50 i) ∧ (3 * ic ≤ i → b.2 37 i = I 37 i)) (0, I4) ⟨rfl, fun _ _ _ => rfl, fun j => ⟨fun hj => absurd hj (Nat.not_lt_zero j), fun _ => i4 37 j (by omega)⟩⟩ (by
      rintro k ⟨x, K⟩ hk ⟨hx, g1, g2⟩
      left
      have hx : x = nI k := hx
      have g1 : ∀ q i, q ≠ 37 → K q i = I4 q i := g1
      have g2 : ∀ i, (i < k → K 37 i = I 50 i) ∧ (k ≤ i → K 37 i = I 37 i) := g2
      subst hx
      have a0 : K 31 39 = nI ic := (g1 31 39 (by omega)).trans ((i31 39 (by omega)).trans h39)
      have a50 : K 50 k = I 50 k := (g1 50 k (by omega)).trans (i4 50 k (by omega))
      refine ⟨(nI (k + 1), rk_ui K 37 k (I 50 k)), ?_, rfl, fun q i hq => ?_, fun i => ?_⟩
      · show f_X10_back_l20 K (nI k) = _
        unfold f_X10_back_l20
        rw [a0, show (3 : Int32) = nI 3 from rfl, pk_mul, if_neg (nI_ge hk (by omega)), pr_rd (by omega) (by omega), pr_sb, pr_wr (by omega) (by omega), pr_sb, nI_1, a50]
      · show rk_ui K 37 k (I 50 k) q i = _
        rw [ui_o hq]
        exact g1 q i hq
      · show (i < k + 1 → rk_ui K 37 k (I 50 k) 37 i = _) ∧ (k + 1 ≤ i → rk_ui K 37 k (I 50 k) 37 i = _)
        by_cases hik : i = k
        · subst hik
          rw [ui_s]
          exact ⟨fun _ => rfl, fun h => absurd h (by omega)⟩
        · rw [ui_n hik]
          exact ⟨fun h => (g2 i).1 (by omega), fun h => (g2 i).2 (by omega)⟩) (by
      rintro ⟨x, K⟩ ⟨hx, g1, g2⟩
      have hx : x = nI (3 * ic) := hx
      have g1 : ∀ q i, q ≠ 37 → K q i = I4 q i := g1
      subst hx
      have a0 : K 31 39 = nI ic := (g1 31 39 (by omega)).trans ((i31 39 (by omega)).trans h39)
      refine ⟨(nI (3 * ic), K), ?_, g1, g2⟩
      show f_X10_back_l20 K (nI (3 * ic)) = _
      unfold f_X10_back_l20
      rw [a0, show (3 : Int32) = nI 3 from rfl, pk_mul, if_pos (nI_le (Nat.le_refl _) (by omega))])
  have p1 : ∀ q i, q ≠ 37 → I5 q i = I4 q i := p1
  have p2 : ∀ i, (i < 3 * ic → I5 37 i = I 50 i) ∧ (3 * ic ≤ i → I5 37 i = I 37 i) := p2
  have r5 : ∀ q i, q ≠ 31 → q ≠ 37 → I5 q i = I q i := fun q i a b => (p1 q i b).trans (i4 q i a)
  obtain ⟨⟨z2, I6⟩, e2, p3, p4⟩ := pr_for0 (f := fun a9 : Int32 × rk_I => f_X10_back_l50 a9.2 a9.1) (fun k a => a.1 = nI k ∧ (∀ q i, q ≠ 45 → q ≠ 46 → a.2 q i = I5 q i) ∧ ∀ i, (i < k → a.2 45 i = I 51 i ∧ a.2 46 i = I 52 i) ∧ (k ≤ i → a.2 45 i = I 45 i ∧ a.2 46 i = I 46 i)) is (fun b => (∀ q i, q ≠ 45 → q ≠ 46 → b.2 q i = I5 q i) ∧ ∀ i, (i < is → b.2 45 i = I 51 i ∧ b.2 46 i = I 52 i) ∧ (is ≤ i → b.2 45 i = I 45 i ∧ b.2 46 i = I 46 i)) (0, I5) ⟨rfl, fun _ _ _ _ => rfl, fun j => ⟨fun hj => absurd hj (Nat.not_lt_zero j), fun _ => ⟨r5 45 j (by omega) (by omega), r5 46 j (by omega) (by omega)⟩⟩⟩ (by
      rintro k ⟨x, K⟩ hk ⟨hx, g1, g2⟩
      left
      have hx : x = nI k := hx
      have g1 : ∀ q i, q ≠ 45 → q ≠ 46 → K q i = I5 q i := g1
      have g2 : ∀ i, (i < k → K 45 i = I 51 i ∧ K 46 i = I 52 i) ∧ (k ≤ i → K 45 i = I 45 i ∧ K 46 i = I 46 i) := g2
      subst hx
      have a0 : K 31 40 = nI is := (g1 31 40 (by omega) (by omega)).trans ((p1 31 40 (by omega)).trans ((i31 40 (by omega)).trans h40))
      have a51 : K 51 k = I 51 k := (g1 51 k (by omega) (by omega)).trans (r5 51 k (by omega) (by omega))
      have a52 : K 52 k = I 52 k := (g1 52 k (by omega) (by omega)).trans (r5 52 k (by omega) (by omega))
      refine ⟨(nI (k + 1), rk_ui (rk_ui K 45 k (I 51 k)) 46 k (I 52 k)), ?_, rfl, fun q i hq hq2 => ?_, fun i => ?_⟩
      · show f_X10_back_l50 K (nI k) = _
        unfold f_X10_back_l50
        rw [a0, if_neg (nI_ge hk (by omega)), pr_rd (by omega) (by omega), pr_sb, pr_wr (by omega) (by omega), pr_sb, pr_rd (by omega) (by omega), pr_sb, pr_wr (by omega) (by omega), pr_sb, nI_1, ui_o (by omega), a51, a52]
      · show rk_ui (rk_ui K 45 k (I 51 k)) 46 k (I 52 k) q i = _
        rw [ui_o hq2, ui_o hq]
        exact g1 q i hq hq2
      · show (i < k + 1 → rk_ui (rk_ui K 45 k (I 51 k)) 46 k (I 52 k) 45 i = _ ∧ rk_ui (rk_ui K 45 k (I 51 k)) 46 k (I 52 k) 46 i = _) ∧ (k + 1 ≤ i → rk_ui (rk_ui K 45 k (I 51 k)) 46 k (I 52 k) 45 i = _ ∧ rk_ui (rk_ui K 45 k (I 51 k)) 46 k (I 52 k) 46 i = _)
        rw [ui_o (by omega : 45 ≠ 46)]
        by_cases hik : i = k
        · subst hik
          rw [ui_s, ui_s]
          exact ⟨fun _ => ⟨rfl, rfl⟩, fun h => absurd h (by omega)⟩
        · rw [ui_n hik, ui_n hik, ui_o (by omega)]
          exact ⟨fun h => (g2 i).1 (by omega), fun h => (g2 i).2 (by omega)⟩) (by
      rintro ⟨x, K⟩ ⟨hx, g1, g2⟩
      have hx : x = nI is := hx
      have g1 : ∀ q i, q ≠ 45 → q ≠ 46 → K q i = I5 q i := g1
      subst hx
      have a0 : K 31 40 = nI is := (g1 31 40 (by omega) (by omega)).trans ((p1 31 40 (by omega)).trans ((i31 40 (by omega)).trans h40))
      refine ⟨(nI is, K), ?_, g1, g2⟩
      show f_X10_back_l50 K (nI is) = _
      unfold f_X10_back_l50
      rw [a0, if_pos (nI_le (Nat.le_refl _) (by omega))])
  have p3 : ∀ q i, q ≠ 45 → q ≠ 46 → I6 q i = I5 q i := p3
  have p4 : ∀ i, (i < is → I6 45 i = I 51 i ∧ I6 46 i = I 52 i) ∧ (is ≤ i → I6 45 i = I 45 i ∧ I6 46 i = I 46 i) := p4
  have k31 : ∀ i, I6 31 i = I4 31 i := fun i => (p3 31 i (by omega) (by omega)).trans (p1 31 i (by omega))
  refine ⟨I6, ?_, fun q i a b d e => (p3 q i d e).trans (r5 q i a b), fun i a => (k31 i).trans (i31 i a), ?_, fun i => ?_, p4⟩
  · unfold f_X10_back
    rw [if_neg h38, pr_sb, e1, pr_b2, e2, pr_b2, k31 20, i31 20 (by omega), h20]
  · rw [k31]
    show rk_ui I 31 4 (I 31 41) 31 4 = _
    rw [ui_s]
  · rw [p3 37 i (by omega) (by omega)]
    exact p2 i
theorem ck_back {n : Nat} {S : rk_Sh} {I : rk_I} {R : rk_R} (h : iv n S I R) : ∃ v I1 I2, f_X9_back S I R = some (v, I1) ∧ f_X10_back I1 = some (v, I2) ∧ iv n S I2 R := by
  have h' := h
  obtain ⟨c, s, t, r, oc, os, ot, sv, cv, h1, h2, h3, h4, h5, h6, h7, h8, h9, h10, h11⟩ := h
  have h11' := h11
  obtain ⟨x, ic, is, ir, i1, i2, i3, i4, i5, i6, i7, i8, i9, i10, i11, i12, i13, i14⟩ := h11
  rcases Nat.eq_zero_or_pos x with hx | hx
  · subst hx
    refine ⟨-3, I, I, ?_, ?_, h'⟩
    · unfold f_X9_back
      exact if_pos i2
    · unfold f_X10_back
      exact if_pos i3
  · have hx1 : x = 1 := by omega
    subst hx1
    obtain ⟨I1, e1, a1, a2, a3, a4, a5⟩ := bk_c h5 h6 i4 i7 (by rw [i2]; decide) i5 i8
    have hO := h6.1
    have x3 := h6.2.2.2.1
    have x4 := h6.2.2.2.2
    have w1 : ∀ k, k < 57 → k ≠ 0 → I1 k = I k := fun k hk hk0 => funext (fun i => a1 k i hk0 (fun j hj e => by have := hO.1 j (by omega); omega) (fun j hj e => by have := hO.2.1 j (by omega); omega))
    have w31 := w1 31 (by omega) (by omega)
    obtain ⟨I2, e2, b1, b2, b3, b4, b5⟩ := bk_m (I := I1) h5.1 h5.2.1 i4 i7 (by rw [w31, i3]; decide) (by rw [w31]; exact i6) (by rw [w31]; exact i9) (by rw [w31]; exact h7.2.1)
    refine ⟨nI s, I1, I2, e1, e2, ?_⟩
    have hP : ∀ k, ∃ pq : Nat × Nat, k < is → pq.1 < 1001 ∧ pq.2 < 1000000 ∧ I (os k) 9 = nI pq.1 - 1 ∧ I 51 k = nI pq.1 - 1 ∧ I (os k) 10 = nI pq.2 ∧ I 52 k = nI pq.2 := fun k => by
      by_cases hk : k < is
      · obtain ⟨p, q, g⟩ := i13 k hk
        exact ⟨(p, q), fun _ => g⟩
      · exact ⟨(0, 0), fun z => absurd z hk⟩
    obtain ⟨P, hP⟩ := Classical.axiomOfChoice hP
    have hQ : ∀ kj : Nat × Nat, ∃ p : Nat, kj.1 < ic → kj.2 < 3 → p < 1001 ∧ I (oc kj.1 + 2) kj.2 = nI p - 1 ∧ I 50 (3 * kj.1 + kj.2) = nI p - 1 := fun kj => by
      by_cases hk : kj.1 < ic ∧ kj.2 < 3
      · obtain ⟨p, g⟩ := i14 kj.1 hk.1 kj.2 hk.2
        exact ⟨p, fun _ _ => g⟩
      · exact ⟨0, fun z y => absurd ⟨z, y⟩ hk⟩
    obtain ⟨Q, hQ⟩ := Classical.axiomOfChoice hQ
    refine iv_set (r' := ir) (sv' := fun k i => if k < is then (if i = 7 then (P k).1 else if i = 8 then (P k).2 else sv k i) else sv k i) (cv' := fun k i => if k < ic ∧ 2 ≤ i then Q (k, i - 2) else cv k i) h1 h2 h3 h4 h5 h6 h7 h8 h9 h10 h11' (fun k i k45 k46 k37 kos koc k06 k31 kk => ?_) (fun j hj => ?_) (fun j hj => ?_) i10 ?_ ?_ (kR_r _)
    · by_cases k0 : k = 0
      · subst k0
        rw [b1 0 i (by omega) (by omega) (by omega) (by omega), a2 i (by omega)]
      · by_cases kk31 : k = 31
        · subst kk31
          rw [b2 i (by omega), w31]
        · rw [b1 k i kk31 k37 k45 k46]
          exact a1 k i k0 (fun j hj => koc j (by omega)) (fun j hj => kos j (by omega))
    · have hb := hO.2.1 j hj
      have g := x3 j hj
      have gm := h7.2.2.1 j hj
      have gb := h5.2.2.1 j hj
      have hI2 : ∀ i, I2 (os j) i = I1 (os j) i := fun i => b1 _ i (by omega) (by omega) (by omega) (by omega)
      by_cases hji : j < is
      · obtain ⟨p1, p2, p3, p4, p5, p6⟩ := hP j hji
        obtain ⟨q1, q2, q3⟩ := a5 j hji
        obtain ⟨y1, y2⟩ := (b5 j).1 hji
        simp only [hji, if_true, show (8 : Nat) ≠ 7 by decide, if_false]
        refine ⟨fun i a b => by rw [hI2, q1 i a b], by rw [hI2, q2, p3], by rw [hI2, q3, p5], by rw [y1, w1 51 (by omega) (by omega), p4], by rw [y2, w1 52 (by omega) (by omega), p6], p1, p2, fun i hi => ?_⟩
        rw [if_neg (by omega), if_neg (by omega)]
      · have hI1 : ∀ i, I1 (os j) i = I (os j) i := fun i => a1 _ i (by omega) (fun q hq => (pv_dS x4 x3 (by omega : q < c) hj).2.1) (fun q hq e => by have := hO.2.2.2 j q hj (by omega) e; omega)
        obtain ⟨y1, y2⟩ := (b5 j).2 (by omega)
        simp only [hji, if_false]
        refine ⟨fun i a b => by rw [hI2, hI1], by rw [hI2, hI1]; exact g.2.2.2.2.2.2.2.2.2.1, by rw [hI2, hI1]; exact g.2.2.2.2.2.2.2.2.2.2, by rw [y1, w1 45 (by omega) (by omega)]; exact gm.2.2.2.2.2.2.2.1, by rw [y2, w1 46 (by omega) (by omega)]; exact gm.2.2.2.2.2.2.2.2, gb.2.2.2.2.2.2.2.2.2.1, gb.2.2.2.2.2.2.2.2.2.2, fun _ _ => trivial⟩
    · have hb := hO.1 j hj
      refine ⟨if_neg (by omega), if_neg (by omega), fun i hi => ?_⟩
      have hI2 : I2 (oc j + 1) i = I1 (oc j + 1) i := b1 _ i (by omega) (by omega) (by omega) (by omega)
      by_cases hji : j < ic
      · obtain ⟨p1, p2, p3⟩ := hQ (j, i) hji hi
        have e : (if j < ic ∧ 2 ≤ 2 + i then Q (j, 2 + i - 2) else cv j (2 + i)) = Q (j, i) := by
          rw [if_pos ⟨hji, by omega⟩, show 2 + i - 2 = i by omega]
        simp only [e]
        refine ⟨by rw [hI2, a4 j hji i hi, p2], by rw [(b4 (3 * j + i)).1 (by omega), w1 50 (by omega) (by omega), p3], p1⟩
      · have hI1 : I1 (oc j + 1) i = I (oc j + 1) i := a1 _ i (by omega) (fun q hq e => by have := hO.2.2.1 j q hj (by omega) (by omega); omega) (fun q hq => Ne.symm (pv_dS x4 x3 hj (by omega : q < s)).2.1)
        have e : (if j < ic ∧ 2 ≤ 2 + i then Q (j, 2 + i - 2) else cv j (2 + i)) = cv j (2 + i) := if_neg (fun z => hji z.1)
        simp only [e]
        refine ⟨by rw [hI2, hI1]; exact (x4 j hj).2.2.2.2.2.2.2.2.2 i hi, by rw [(b4 (3 * j + i)).2 (by omega), w1 37 (by omega) (by omega)]; exact (h7.2.2.2 j hj).2.2 i hi, (h5.2.2.2 j hj).2.2.2 i hi⟩
    · rw [b1 0 6 (by omega) (by omega) (by omega) (by omega), a3]; exact i11
    · rw [b3, w31]; exact i12
