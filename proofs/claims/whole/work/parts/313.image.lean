/-! image and back -/
theorem im_cp {S : rk_Sh} {I : rk_I} {a b : Nat} (h1 : S a = (20, 3)) (h2 : S b = (20, 3)) : ((rk_al S a).bind fun N1 => (rk_al S b).bind fun N2 => (rk_cp I a N1 b N2 0 0 3).bind fun I1 => some I1) = some (fun k => if k = b then va_cpy (I a) (I b) 0 0 3 else I k) := by
  rw [pr_al h1, pr_al h2, pr_sb, pr_sb]
  rw [show rk_cp I a 3 b 3 0 0 3 = rk_cp I a 3 b 3 (nI 0) (nI 0) (nI 3) from rfl, pr_cp (by omega) (by omega) (by omega) (by omega)]
  rfl
theorem im_c {n c s : Nat} {oc os : Nat → Nat} {sv cv : pv_V} {S : rk_Sh} {I : rk_I} {R : rk_R} (hB : pv_B c s sv cv) (hX : pv_X n c s oc os sv cv S I R) : ∃ I', f_X9_image S I R = some (nI s, I') ∧ (∀ q i, q ≠ 0 → (∀ j, j < c → q ≠ oc j + 2) → (∀ j, j < s → q ≠ os j) → I' q i = I q i) ∧ (∀ i, i ≠ 13 → i ≠ 14 → i ≠ 15 → i ≠ 16 → I' 0 i = I 0 i) ∧ I' 0 13 = 1 ∧ I' 0 14 = nI c ∧ I' 0 15 = nI s ∧ I' 0 16 = I 0 6 ∧ (∀ j, j < c → ∀ i, i < 3 → I' (oc j + 2) i = I (oc j + 1) i) ∧ ∀ j, j < s → (∀ i, i ≠ 9 → i ≠ 10 → I' (os j) i = I (os j) i) ∧ I' (os j) 9 = I (os j) 7 ∧ I' (os j) 10 = I (os j) 8 := by
  obtain ⟨hO, x1, x2, x3, x4⟩ := hX
  have hc := hB.1
  have hs := hB.2.1
  obtain ⟨⟨z1, I1⟩, e1, p1, p2⟩ := pr_for0 (f := fun a9 : Int32 × rk_I => f_X9_image_l2 S a9.2 R a9.1) (fun k a => a.1 = nI k ∧ (∀ q i, (∀ j, j < k → q ≠ oc j + 2) → a.2 q i = I q i) ∧ ∀ j, j < k → ∀ i, i < 3 → a.2 (oc j + 2) i = I (oc j + 1) i) c (fun b => (∀ q i, (∀ j, j < c → q ≠ oc j + 2) → b.2 q i = I q i) ∧ ∀ j, j < c → ∀ i, i < 3 → b.2 (oc j + 2) i = I (oc j + 1) i) (0, I) ⟨rfl, fun _ _ _ => rfl, fun j hj => absurd hj (Nat.not_lt_zero j)⟩ (by
      rintro k ⟨x, K⟩ hk ⟨hx, h1, h2⟩
      left
      have hx : x = nI k := hx
      have h1 : ∀ q i, (∀ j, j < k → q ≠ oc j + 2) → K q i = I q i := h1
      have h2 : ∀ j, j < k → ∀ i, i < 3 → K (oc j + 2) i = I (oc j + 1) i := h2
      subst hx
      obtain ⟨g0, g1, g2, g3, g4, g5, -⟩ := x4 k hk
      have a0 : K 0 1 = nI c := (h1 0 1 (fun j hj => by omega)).trans x1
      have o1 : ∀ i, K (oc k + 1) i = I (oc k + 1) i := fun i => h1 _ i (fun j hj e => (pv_dC x4 hk (by omega : j < c)).1 (by omega))
      refine ⟨(nI (k + 1), fun k' => if k' = oc k + 2 then va_cpy (K (oc k + 1)) (K (oc k + 2)) 0 0 3 else K k'), ?_, rfl, fun q i hq => ?_, fun j hj i hi => ?_⟩
      · show f_X9_image_l2 S K R (nI k) = _
        unfold f_X9_image_l2 f_X0_keep
        rw [a0, if_neg (nI_ge hk (by omega)), pr_rdR (by omega) (by omega), g0, pr_sb, pr_dr g1, pr_sb, pr_sb, pr_sb, g4, g5, pr_sb, pr_sb, im_cp g2 g3, pr_sb, nI_1]
      · show (if q = oc k + 2 then va_cpy (K (oc k + 1)) (K (oc k + 2)) 0 0 3 else K q) i = _
        rw [if_neg (hq k (by omega))]
        exact h1 q i (fun j hj => hq j (by omega))
      · show (if oc j + 2 = oc k + 2 then va_cpy (K (oc k + 1)) (K (oc k + 2)) 0 0 3 else K (oc j + 2)) i = _
        by_cases hjk : j = k
        · subst hjk
          rw [if_pos rfl, pk_cpy_in (by omega) (by omega), o1, show 0 + (i - 0) = i by omega]
        · rw [if_neg (fun e => hjk (hO.2.2.1 j k (by omega) hk (by omega)))]
          exact h2 j (by omega) i hi) (by
      rintro ⟨x, K⟩ ⟨hx, h1, h2⟩
      have hx : x = nI c := hx
      have h1 : ∀ q i, (∀ j, j < c → q ≠ oc j + 2) → K q i = I q i := h1
      subst hx
      have a0 : K 0 1 = nI c := (h1 0 1 (fun j hj => by omega)).trans x1
      refine ⟨(nI c, K), ?_, h1, h2⟩
      show f_X9_image_l2 S K R (nI c) = _
      unfold f_X9_image_l2
      rw [a0, if_pos (nI_le (Nat.le_refl _) (by omega))])
  have p1 : ∀ q i, (∀ j, j < c → q ≠ oc j + 2) → I1 q i = I q i := p1
  have p2 : ∀ j, j < c → ∀ i, i < 3 → I1 (oc j + 2) i = I (oc j + 1) i := p2
  have b0 : ∀ i, I1 0 i = I 0 i := fun i => p1 0 i (fun j hj => by omega)
  have bs : ∀ j, j < s → ∀ i, I1 (os j) i = I (os j) i := fun j hj i => p1 _ i (fun q hq => (pv_dS x4 x3 hq hj).2.2)
  obtain ⟨⟨z2, I2⟩, e2, p3, p4⟩ := pr_for0 (f := fun a9 : Int32 × rk_I => f_X9_image_l27 S a9.2 R a9.1) (fun k a => a.1 = nI k ∧ (∀ q i, (∀ j, j < k → q ≠ os j) → a.2 q i = I1 q i) ∧ ∀ j, j < k → (∀ i, i ≠ 9 → i ≠ 10 → a.2 (os j) i = I1 (os j) i) ∧ a.2 (os j) 9 = I1 (os j) 7 ∧ a.2 (os j) 10 = I1 (os j) 8) s (fun b => (∀ q i, (∀ j, j < s → q ≠ os j) → b.2 q i = I1 q i) ∧ ∀ j, j < s → (∀ i, i ≠ 9 → i ≠ 10 → b.2 (os j) i = I1 (os j) i) ∧ b.2 (os j) 9 = I1 (os j) 7 ∧ b.2 (os j) 10 = I1 (os j) 8) (0, I1) ⟨rfl, fun _ _ _ => rfl, fun j hj => absurd hj (Nat.not_lt_zero j)⟩ (by
      rintro k ⟨x, K⟩ hk ⟨hx, h1, h2⟩
      left
      have hx : x = nI k := hx
      have h1 : ∀ q i, (∀ j, j < k → q ≠ os j) → K q i = I1 q i := h1
      have h2 : ∀ j, j < k → (∀ i, i ≠ 9 → i ≠ 10 → K (os j) i = I1 (os j) i) ∧ K (os j) 9 = I1 (os j) 7 ∧ K (os j) 10 = I1 (os j) 8 := h2
      subst hx
      obtain ⟨g0, g1, -⟩ := x3 k hk
      have a0 : K 0 3 = nI s := (h1 0 3 (fun j hj e => by have := hO.2.1 j (by omega); omega)).trans ((b0 3).trans x2)
      have ok : ∀ i, K (os k) i = I1 (os k) i := fun i => h1 _ i (fun j hj e => by have := hO.2.2.2 k j hk (by omega) e; omega)
      refine ⟨(nI (k + 1), rk_ui (rk_ui K (os k) 9 (K (os k) 7)) (os k) 10 (K (os k) 8)), ?_, rfl, fun q i hq => ?_, fun j hj => ?_⟩
      · show f_X9_image_l27 S K R (nI k) = _
        unfold f_X9_image_l27 f_X5_keep
        rw [a0, if_neg (nI_ge hk (by omega)), pr_rdR (by omega) (by omega), g0, pr_sb, pr_dr g1, pr_sb, pr_sb, pr_sb, pr_sb, nI_1, ui_n (by omega)]
      · show rk_ui (rk_ui K (os k) 9 (K (os k) 7)) (os k) 10 (K (os k) 8) q i = _
        rw [ui_o (hq k (by omega)), ui_o (hq k (by omega))]
        exact h1 q i (fun j hj => hq j (by omega))
      · show (∀ i, i ≠ 9 → i ≠ 10 → rk_ui (rk_ui K (os k) 9 (K (os k) 7)) (os k) 10 (K (os k) 8) (os j) i = I1 (os j) i) ∧ rk_ui (rk_ui K (os k) 9 (K (os k) 7)) (os k) 10 (K (os k) 8) (os j) 9 = _ ∧ rk_ui (rk_ui K (os k) 9 (K (os k) 7)) (os k) 10 (K (os k) 8) (os j) 10 = _
        by_cases hjk : j = k
        · subst hjk
          refine ⟨fun i a b => ?_, ?_, ?_⟩
          · rw [ui_n b, ui_n a, ok]
          · rw [ui_n (by omega), ui_s, ok]
          · rw [ui_s, ok]
        · have ne : os j ≠ os k := fun e => hjk (hO.2.2.2 j k (by omega) hk e)
          rw [ui_o ne, ui_o ne]
          exact h2 j (by omega)) (by
      rintro ⟨x, K⟩ ⟨hx, h1, h2⟩
      have hx : x = nI s := hx
      have h1 : ∀ q i, (∀ j, j < s → q ≠ os j) → K q i = I1 q i := h1
      subst hx
      have a0 : K 0 3 = nI s := (h1 0 3 (fun j hj e => by have := hO.2.1 j hj; omega)).trans ((b0 3).trans x2)
      refine ⟨(nI s, K), ?_, h1, h2⟩
      show f_X9_image_l27 S K R (nI s) = _
      unfold f_X9_image_l27
      rw [a0, if_pos (nI_le (Nat.le_refl _) (by omega))])
  have p3 : ∀ q i, (∀ j, j < s → q ≠ os j) → I2 q i = I1 q i := p3
  have p4 : ∀ j, j < s → (∀ i, i ≠ 9 → i ≠ 10 → I2 (os j) i = I1 (os j) i) ∧ I2 (os j) 9 = I1 (os j) 7 ∧ I2 (os j) 10 = I1 (os j) 8 := p4
  have d0 : ∀ i, I2 0 i = I 0 i := fun i => (p3 0 i (fun j hj e => by have := hO.2.1 j hj; omega)).trans (b0 i)
  have nz : ∀ j, j < s → os j ≠ 0 := fun j hj e => by have := hO.2.1 j hj; omega
  refine ⟨rk_ui (rk_ui (rk_ui (rk_ui I2 0 13 1) 0 14 (nI c)) 0 15 (nI s)) 0 16 (I 0 6), ?_, fun q i a b d => ?_, fun i a b d e => ?_, ?_, ?_, ?_, ?_, fun j hj i hi => ?_, fun j hj => ?_⟩
  · unfold f_X9_image
    rw [e1, pr_b2, e2, pr_b2, pr_sb, ui_n (by omega), d0 1, x1, pr_sb]
    simp (disch := omega) only [ui_n, d0, x2, pr_sb]
  · rw [ui_o a, ui_o a, ui_o a, ui_o a, p3 q i d, p1 q i b]
  · rw [ui_n e, ui_n d, ui_n b, ui_n a, d0]
  · simp (disch := omega) only [ui_n, ui_s]
  · simp (disch := omega) only [ui_n, ui_s]
  · simp (disch := omega) only [ui_n, ui_s]
  · simp (disch := omega) only [ui_n, ui_s]
  · have := hO.1 j hj
    rw [ui_o (by omega), ui_o (by omega), ui_o (by omega), ui_o (by omega), p3 _ i (fun q hq => Ne.symm (pv_dS x4 x3 hj hq).2.2), p2 j hj i hi]
  · have e := nz j hj
    rw [ui_o e, ui_o e, ui_o e, ui_o e]
    obtain ⟨q1, q2, q3⟩ := p4 j hj
    exact ⟨fun i a b => (q1 i a b).trans (bs j hj i), q2.trans (bs j hj 7), q3.trans (bs j hj 8)⟩
theorem im_m {c s : Nat} {sv cv : pv_V} {I : rk_I} (hB : pv_B c s sv cv) (h1 : I 31 10 = nI c) (h2 : I 31 20 = nI s) : ∃ I', f_X10_image I = some (nI s, I') ∧ (∀ q i, q ≠ 31 → q ≠ 50 → q ≠ 51 → q ≠ 52 → I' q i = I q i) ∧ (∀ i, i ≠ 38 → i ≠ 39 → i ≠ 40 → i ≠ 41 → I' 31 i = I 31 i) ∧ I' 31 38 = 1 ∧ I' 31 39 = nI c ∧ I' 31 40 = nI s ∧ I' 31 41 = I 31 4 ∧ (∀ i, i < 3 * c → I' 50 i = I 37 i) ∧ ∀ j, j < s → I' 51 j = I 45 j ∧ I' 52 j = I 46 j := by
  have hc := hB.1
  have hs := hB.2.1
  let I4 : rk_I := rk_ui (rk_ui (rk_ui (rk_ui I 31 38 1) 31 39 (nI c)) 31 40 (nI s)) 31 41 (I 31 4)
  have i4 : ∀ q i, q ≠ 31 → I4 q i = I q i := fun q i hq => by
    show rk_ui (rk_ui (rk_ui (rk_ui I 31 38 1) 31 39 (nI c)) 31 40 (nI s)) 31 41 (I 31 4) q i = _
    rw [ui_o hq, ui_o hq, ui_o hq, ui_o hq]
  have i31 : ∀ i, i ≠ 38 → i ≠ 39 → i ≠ 40 → i ≠ 41 → I4 31 i = I 31 i := fun i a b d e => by
    show rk_ui (rk_ui (rk_ui (rk_ui I 31 38 1) 31 39 (nI c)) 31 40 (nI s)) 31 41 (I 31 4) 31 i = _
    rw [ui_n e, ui_n d, ui_n b, ui_n a]
  obtain ⟨⟨z1, I5⟩, e1, p1, p2⟩ := pr_for0 (f := fun a9 : Int32 × rk_I => f_X10_image_l31 a9.2 a9.1) (fun k a => a.1 = nI k ∧ (∀ q i, q ≠ 50 → a.2 q i = I4 q i) ∧ ∀ i, i < k → a.2 50 i = I 37 i) (3 * c) (fun b => (∀ q i, q ≠ 50 → b.2 q i = I4 q i) ∧ ∀ i, i < 3 * c → b.2 50 i = I 37 i) (0, I4) ⟨rfl, fun _ _ _ => rfl, fun j hj => absurd hj (Nat.not_lt_zero j)⟩ (by
      rintro k ⟨x, K⟩ hk ⟨hx, g1, g2⟩
      left
      have hx : x = nI k := hx
      have g1 : ∀ q i, q ≠ 50 → K q i = I4 q i := g1
      have g2 : ∀ i, i < k → K 50 i = I 37 i := g2
      subst hx
      have a0 : K 31 10 = nI c := (g1 31 10 (by omega)).trans ((i31 10 (by omega) (by omega) (by omega) (by omega)).trans h1)
      have a37 : K 37 k = I 37 k := (g1 37 k (by omega)).trans (i4 37 k (by omega))
      refine ⟨(nI (k + 1), rk_ui K 50 k (I 37 k)), ?_, rfl, fun q i hq => ?_, fun i hi => ?_⟩
      · show f_X10_image_l31 K (nI k) = _
        unfold f_X10_image_l31
        rw [a0, show (3 : Int32) = nI 3 from rfl, pk_mul, if_neg (nI_ge hk (by omega)), pr_rd (by omega) (by omega), pr_sb, pr_wr (by omega) (by omega), pr_sb, nI_1, a37]
      · show rk_ui K 50 k (I 37 k) q i = _
        rw [ui_o hq]
        exact g1 q i hq
      · show rk_ui K 50 k (I 37 k) 50 i = _
        by_cases hik : i = k
        · subst hik
          rw [ui_s]
        · rw [ui_n hik]
          exact g2 i (by omega)) (by
      rintro ⟨x, K⟩ ⟨hx, g1, g2⟩
      have hx : x = nI (3 * c) := hx
      have g1 : ∀ q i, q ≠ 50 → K q i = I4 q i := g1
      subst hx
      have a0 : K 31 10 = nI c := (g1 31 10 (by omega)).trans ((i31 10 (by omega) (by omega) (by omega) (by omega)).trans h1)
      refine ⟨(nI (3 * c), K), ?_, g1, g2⟩
      show f_X10_image_l31 K (nI (3 * c)) = _
      unfold f_X10_image_l31
      rw [a0, show (3 : Int32) = nI 3 from rfl, pk_mul, if_pos (nI_le (Nat.le_refl _) (by omega))])
  have p1 : ∀ q i, q ≠ 50 → I5 q i = I4 q i := p1
  have p2 : ∀ i, i < 3 * c → I5 50 i = I 37 i := p2
  obtain ⟨⟨z2, I6⟩, e2, p3, p4⟩ := pr_for0 (f := fun a9 : Int32 × rk_I => f_X10_image_l61 a9.2 a9.1) (fun k a => a.1 = nI k ∧ (∀ q i, q ≠ 51 → q ≠ 52 → a.2 q i = I5 q i) ∧ ∀ i, i < k → a.2 51 i = I 45 i ∧ a.2 52 i = I 46 i) s (fun b => (∀ q i, q ≠ 51 → q ≠ 52 → b.2 q i = I5 q i) ∧ ∀ i, i < s → b.2 51 i = I 45 i ∧ b.2 52 i = I 46 i) (0, I5) ⟨rfl, fun _ _ _ _ => rfl, fun j hj => absurd hj (Nat.not_lt_zero j)⟩ (by
      rintro k ⟨x, K⟩ hk ⟨hx, g1, g2⟩
      left
      have hx : x = nI k := hx
      have g1 : ∀ q i, q ≠ 51 → q ≠ 52 → K q i = I5 q i := g1
      have g2 : ∀ i, i < k → K 51 i = I 45 i ∧ K 52 i = I 46 i := g2
      subst hx
      have a0 : K 31 20 = nI s := (g1 31 20 (by omega) (by omega)).trans ((p1 31 20 (by omega)).trans ((i31 20 (by omega) (by omega) (by omega) (by omega)).trans h2))
      have a45 : K 45 k = I 45 k := (g1 45 k (by omega) (by omega)).trans ((p1 45 k (by omega)).trans (i4 45 k (by omega)))
      have a46 : K 46 k = I 46 k := (g1 46 k (by omega) (by omega)).trans ((p1 46 k (by omega)).trans (i4 46 k (by omega)))
      refine ⟨(nI (k + 1), rk_ui (rk_ui K 51 k (I 45 k)) 52 k (I 46 k)), ?_, rfl, fun q i hq hq2 => ?_, fun i hi => ?_⟩
      · show f_X10_image_l61 K (nI k) = _
        unfold f_X10_image_l61
        rw [a0, if_neg (nI_ge hk (by omega)), pr_rd (by omega) (by omega), pr_sb, pr_wr (by omega) (by omega), pr_sb, pr_rd (by omega) (by omega), pr_sb, pr_wr (by omega) (by omega), pr_sb, nI_1, ui_o (by omega), a45, a46]
      · show rk_ui (rk_ui K 51 k (I 45 k)) 52 k (I 46 k) q i = _
        rw [ui_o hq2, ui_o hq]
        exact g1 q i hq hq2
      · show rk_ui (rk_ui K 51 k (I 45 k)) 52 k (I 46 k) 51 i = _ ∧ rk_ui (rk_ui K 51 k (I 45 k)) 52 k (I 46 k) 52 i = _
        rw [ui_o (by omega : 51 ≠ 52)]
        by_cases hik : i = k
        · subst hik
          rw [ui_s, ui_s]
          exact ⟨rfl, rfl⟩
        · rw [ui_n hik, ui_n hik, ui_o (by omega)]
          exact g2 i (by omega)) (by
      rintro ⟨x, K⟩ ⟨hx, g1, g2⟩
      have hx : x = nI s := hx
      have g1 : ∀ q i, q ≠ 51 → q ≠ 52 → K q i = I5 q i := g1
      subst hx
      have a0 : K 31 20 = nI s := (g1 31 20 (by omega) (by omega)).trans ((p1 31 20 (by omega)).trans ((i31 20 (by omega) (by omega) (by omega) (by omega)).trans h2))
      refine ⟨(nI s, K), ?_, g1, g2⟩
      show f_X10_image_l61 K (nI s) = _
      unfold f_X10_image_l61
      rw [a0, if_pos (nI_le (Nat.le_refl _) (by omega))])
  have p3 : ∀ q i, q ≠ 51 → q ≠ 52 → I6 q i = I5 q i := p3
  have p4 : ∀ i, i < s → I6 51 i = I 45 i ∧ I6 52 i = I 46 i := p4
  have k31 : ∀ i, I6 31 i = I4 31 i := fun i => (p3 31 i (by omega) (by omega)).trans (p1 31 i (by omega))
  refine ⟨I6, ?_, fun q i a b d e => ?_, fun i a b d e => (k31 i).trans (i31 i a b d e), ?_, ?_, ?_, ?_, fun i hi => (p3 50 i (by omega) (by omega)).trans (p2 i hi), p4⟩
  · have r20 : I6 31 20 = nI s := (k31 20).trans ((i31 20 (by omega) (by omega) (by omega) (by omega)).trans h2)
    unfold f_X10_image
    rw [pr_sb, ui_n (by omega), h1, pr_sb, ui_n (by omega), ui_n (by omega), h2, pr_sb, ui_n (by omega), ui_n (by omega), ui_n (by omega), pr_sb, e1, pr_b2, e2, pr_b2, r20]
  · rw [p3 q i d e, p1 q i b, i4 q i a]
  · rw [k31]
    show rk_ui (rk_ui (rk_ui (rk_ui I 31 38 1) 31 39 (nI c)) 31 40 (nI s)) 31 41 (I 31 4) 31 38 = _
    rw [ui_n (by omega), ui_n (by omega), ui_n (by omega), ui_s]
  · rw [k31]
    show rk_ui (rk_ui (rk_ui (rk_ui I 31 38 1) 31 39 (nI c)) 31 40 (nI s)) 31 41 (I 31 4) 31 39 = _
    rw [ui_n (by omega), ui_n (by omega), ui_s]
  · rw [k31]
    show rk_ui (rk_ui (rk_ui (rk_ui I 31 38 1) 31 39 (nI c)) 31 40 (nI s)) 31 41 (I 31 4) 31 40 = _
    rw [ui_n (by omega), ui_s]
  · rw [k31]
    show rk_ui (rk_ui (rk_ui (rk_ui I 31 38 1) 31 39 (nI c)) 31 40 (nI s)) 31 41 (I 31 4) 31 41 = _
    rw [ui_s]
