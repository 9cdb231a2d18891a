/-! a call that changes papers, coin paid, hours of cargoes, the rule -/
theorem pv_dT {n c s t r : Nat} {oc os ot : Nat → Nat} {sv cv : pv_V} {S : rk_Sh} {I : rk_I} {R : rk_R} (h : pv_CC c oc cv S I R) (h2 : pv_CS s oc os sv S I R) (h3 : pv_T n t r ot S I R) {q : Nat} (hq : q < t) : (∀ j, j < s → ot q ≠ os j ∧ ot q + 1 ≠ os j ∧ ot q + 2 ≠ os j) ∧ ∀ j, j < c → (ot q ≠ oc j ∧ ot q ≠ oc j + 1 ∧ ot q ≠ oc j + 2) ∧ (ot q + 1 ≠ oc j ∧ ot q + 1 ≠ oc j + 1 ∧ ot q + 1 ≠ oc j + 2) ∧ (ot q + 2 ≠ oc j ∧ ot q + 2 ≠ oc j + 1 ∧ ot q + 2 ≠ oc j + 2) := by
  obtain ⟨-, -, a1, -, -, a2, N, -, a3, -, -⟩ := h3.2.2.2.2.2.2.2 q hq
  have ne : ∀ {x y : Nat}, S x ≠ S y → x ≠ y := fun h e => h (by rw [e])
  refine ⟨fun j hj => ?_, fun j hj => ?_⟩
  · have g := (h2 j hj).2.1
    refine ⟨ne ?_, ne ?_, ne ?_⟩
    · rw [a1, g]; decide
    · rw [a3, g]; intro e; cases e
    · rw [a2, g]; decide
  · obtain ⟨-, b1, b2, b3, -⟩ := h j hj
    have e1 : ot q ≠ oc j := ne (by rw [a1, b1]; decide)
    have e2 : ot q ≠ oc j + 1 := ne (by rw [a1, b2]; decide)
    have e3 : ot q ≠ oc j + 2 := ne (by rw [a1, b3]; decide)
    have e4 : ot q + 1 ≠ oc j := ne (by rw [a3, b1]; intro e; cases e)
    have e5 : ot q + 2 ≠ oc j := ne (by rw [a2, b1]; decide)
    omega
theorem iv_set {n c s t r r' : Nat} {oc os ot : Nat → Nat} {sv cv sv' cv' : pv_V} {S : rk_Sh} {I I' : rk_I} {R R' : rk_R} (h1 : rk_LC S R) (h2 : rk_LM S R) (h3 : 57 ≤ n) (h4 : n ≤ 57 + 3 * c + s + 3 * t) (h5 : pv_B c s sv cv) (h6 : pv_X n c s oc os sv cv S I R) (h7 : pv_Y c s sv cv I) (h8 : pv_T n t r ot S I R) (h9 : pv_F I) (h10 : pv_H I) (h11 : pv_G c s t oc os I)
    (ha : ∀ k i, k ≠ 45 → k ≠ 46 → k ≠ 37 → (∀ j, j < s → k ≠ os j) → (∀ j, j < c → k ≠ oc j + 1) → ¬ (k = 0 ∧ i = 6) → ¬ (k = 31 ∧ i = 4) → kp k i → I' k i = I k i)
    (hb : ∀ j, j < s → (∀ i, i ≠ 7 → i ≠ 8 → I' (os j) i = I (os j) i) ∧ I' (os j) 7 = nI (sv' j 7) - 1 ∧ I' (os j) 8 = nI (sv' j 8) ∧ I' 45 j = nI (sv' j 7) - 1 ∧ I' 46 j = nI (sv' j 8) ∧ sv' j 7 < 1001 ∧ sv' j 8 < 1000000 ∧ ∀ i, i < 7 → sv' j i = sv j i)
    (hc : ∀ j, j < c → cv' j 0 = cv j 0 ∧ cv' j 1 = cv j 1 ∧ ∀ i, i < 3 → I' (oc j + 1) i = nI (cv' j (2 + i)) - 1 ∧ I' 37 (3 * j + i) = nI (cv' j (2 + i)) - 1 ∧ cv' j (2 + i) < 1001)
    (hr : r' < t) (hr1 : I' 0 6 = nI r') (hr2 : I' 31 4 = nI r') (hR : kR R R') : iv n S I' R' := by
  obtain ⟨hO, x1, x2, x3, x4⟩ := h6
  have hX : ∀ k i, k < 57 → k ≠ 45 → k ≠ 46 → k ≠ 37 → ¬ (k = 0 ∧ i = 6) → ¬ (k = 31 ∧ i = 4) → kp k i → I' k i = I k i := fun k i hk a b d e f g => ha k i a b d (fun j hj z => by have := (hO.2.1 j hj).1; omega) (fun j hj z => by have := (hO.1 j hj).1; omega) e f g
  have hW : ∀ k, k < 57 → k ≠ 45 → k ≠ 46 → k ≠ 37 → k ≠ 0 → k ≠ 31 → (∀ i, kp k i) → I' k = I k := fun k hk a b d e f g => by
    funext i
    exact hX k i hk a b d (fun z => e z.1) (fun z => f z.1) (g i)
  have hcell : ∀ j, j < c → ∀ i, I' (oc j) i = I (oc j) i := fun j hj i => by
    have a := (hO.1 j hj).1
    exact ha _ _ (by omega) (by omega) (by omega) (fun q hq z => (pv_dS x4 x3 hj hq).1 z.symm) (fun q hq => (pv_dC x4 hj hq).1) (by omega) (by omega) (by unfold kp; omega)
  refine ⟨c, s, t, r', oc, os, ot, sv', cv', kLC h1 hR, kLM h2 hR, h3, h4, ⟨h5.1, h5.2.1, fun j hj => ?_, fun j hj => ?_⟩, ?_, ?_, ?_, ?_, ?_, ?_⟩
  · obtain ⟨-, -, -, -, -, b1, b2, b3⟩ := hb j hj
    rw [b3 0 (by omega), b3 1 (by omega), b3 2 (by omega), b3 3 (by omega), b3 4 (by omega), b3 5 (by omega), b3 6 (by omega)]
    have := h5.2.2.1 j hj
    omega
  · obtain ⟨b1, b2, b3⟩ := hc j hj
    rw [b1, b2]
    have := h5.2.2.2 j hj
    exact ⟨this.1, this.2.1, this.2.2.1, fun i hi => (b3 i hi).2.2⟩
  · refine kX (I := I') (R := R) ⟨hO, ?_, ?_, fun j hj => ?_, fun j hj => ?_⟩ (kI_r _) hR
    · rw [hX 0 1 (by omega) (by omega) (by omega) (by omega) (by omega) (by omega) (by unfold kp; omega)]; exact x1
    · rw [hX 0 3 (by omega) (by omega) (by omega) (by omega) (by omega) (by omega) (by unfold kp; omega)]; exact x2
    · obtain ⟨b0, b7, b8, -, -, b1, b2, b3⟩ := hb j hj
      rw [b3 0 (by omega), b3 1 (by omega), b3 2 (by omega), b3 3 (by omega), b3 4 (by omega), b3 5 (by omega), b3 6 (by omega), b0 0 (by omega) (by omega), b0 2 (by omega) (by omega), b0 3 (by omega) (by omega), b0 4 (by omega) (by omega), b0 5 (by omega) (by omega), b0 6 (by omega) (by omega), b7, b8]
      obtain ⟨g1, g2, g3, g4, g5, g6, g7, g8, g9, -, -⟩ := x3 j hj
      exact ⟨g1, g2, g3, g4, g5, g6, g7, g8, g9, rfl, rfl⟩
    · obtain ⟨b1, b2, b3⟩ := hc j hj
      rw [hcell j hj, hcell j hj, hcell j hj, b1, b2]
      obtain ⟨g1, g2, g3, g4, g5, g6, g7, g8, g9, -⟩ := x4 j hj
      exact ⟨g1, g2, g3, g4, g5, g6, g7, g8, g9, fun i hi => (b3 i hi).1⟩
  · refine ⟨?_, ?_, fun j hj => ?_, fun j hj => ?_⟩
    · rw [hX 31 10 (by omega) (by omega) (by omega) (by omega) (by omega) (by omega) (by unfold kp; omega)]; exact h7.1
    · rw [hX 31 20 (by omega) (by omega) (by omega) (by omega) (by omega) (by omega) (by unfold kp; omega)]; exact h7.2.1
    · obtain ⟨-, -, -, b7, b8, b1, b2, b3⟩ := hb j hj
      rw [b3 0 (by omega), b3 1 (by omega), b3 2 (by omega), b3 3 (by omega), b3 4 (by omega), b3 5 (by omega), b3 6 (by omega), b7, b8]
      rw [hW 38 (by omega) (by omega) (by omega) (by omega) (by omega) (by omega) (fun i => by unfold kp; omega), hW 39 (by omega) (by omega) (by omega) (by omega) (by omega) (by omega) (fun i => by unfold kp; omega), hW 40 (by omega) (by omega) (by omega) (by omega) (by omega) (by omega) (fun i => by unfold kp; omega), hW 41 (by omega) (by omega) (by omega) (by omega) (by omega) (by omega) (fun i => by unfold kp; omega), hW 42 (by omega) (by omega) (by omega) (by omega) (by omega) (by omega) (fun i => by unfold kp; omega), hW 43 (by omega) (by omega) (by omega) (by omega) (by omega) (by omega) (fun i => by unfold kp; omega), hW 44 (by omega) (by omega) (by omega) (by omega) (by omega) (by omega) (fun i => by unfold kp; omega)]
      obtain ⟨g1, g2, g3, g4, g5, g6, g7, -, -⟩ := h7.2.2.1 j hj
      exact ⟨g1, g2, g3, g4, g5, g6, g7, rfl, rfl⟩
    · obtain ⟨b1, b2, b3⟩ := hc j hj
      rw [b1, b2, hW 35 (by omega) (by omega) (by omega) (by omega) (by omega) (by omega) (fun i => by unfold kp; omega), hW 36 (by omega) (by omega) (by omega) (by omega) (by omega) (by omega) (fun i => by unfold kp; omega)]
      obtain ⟨g1, g2, -⟩ := h7.2.2.2 j hj
      exact ⟨g1, g2, fun i hi => (b3 i hi).2.1⟩
  · have hd := fun q hq => pv_dT x4 x3 h8 (q := q) hq
    obtain ⟨t1, t2, t3, t4, t5, t6, t7, t8⟩ := h8
    refine ⟨t1, t2, ?_, ?_, hr, hr1, hr2, fun q hq => ?_⟩
    · rw [hX 0 5 (by omega) (by omega) (by omega) (by omega) (by omega) (by omega) (by unfold kp; omega)]; exact t3
    · rw [hX 31 3 (by omega) (by omega) (by omega) (by omega) (by omega) (by omega) (by unfold kp; omega)]; exact t4
    · obtain ⟨d1, d2⟩ := hd q hq
      have hb := (t8 q hq).2.1
      have e1 : I' (ot q + 1) = I (ot q + 1) := by
        funext i
        exact ha _ _ (by omega) (by omega) (by omega) (fun j hj => (d1 j hj).2.1) (fun j hj => (d2 j hj).2.1.2.1) (by omega) (by omega) (by unfold kp; omega)
      have e2 : I' (ot q + 2) = I (ot q + 2) := by
        funext i
        exact ha _ _ (by omega) (by omega) (by omega) (fun j hj => (d1 j hj).2.2) (fun j hj => (d2 j hj).2.2.2.1) (by omega) (by omega) (by unfold kp; omega)
      rw [e1, e2, hW 32 (by omega) (by omega) (by omega) (by omega) (by omega) (by omega) (fun i => by unfold kp; omega), hW 33 (by omega) (by omega) (by omega) (by omega) (by omega) (by omega) (fun i => by unfold kp; omega), kR_big hR (by omega : ot q ≠ 14) (by omega), kR_big hR (by omega : 3 ≠ 14) (by omega)]
      exact t8 q hq
  · refine mF h9 ?_ ?_ ?_ ?_
    · exact hX 4 1 (by omega) (by omega) (by omega) (by omega) (by omega) (by omega) (by unfold kp; omega)
    · exact hX 31 6 (by omega) (by omega) (by omega) (by omega) (by omega) (by omega) (by unfold kp; omega)
    · exact hW 5 (by omega) (by omega) (by omega) (by omega) (by omega) (by omega) (fun i => by unfold kp; omega)
    · exact hW 34 (by omega) (by omega) (by omega) (by omega) (by omega) (by omega) (fun i => by unfold kp; omega)
  · exact mH h10 (fun k _ _ => hW k (by omega) (by omega) (by omega) (by omega) (by omega) (by omega) (fun i => by unfold kp; omega)) (fun k _ _ => hW k (by omega) (by omega) (by omega) (by omega) (by omega) (by omega) (fun i => by unfold kp; omega))
  · refine mG h11 hO (Nat.le_refl _) (Nat.le_refl _) (Nat.le_refl _) (fun _ _ => rfl) (fun _ _ => rfl) (fun j hj => ⟨(hb j hj).1 9 (by omega) (by omega), (hb j hj).1 10 (by omega) (by omega)⟩) (fun j hj => ?_) ?_ ?_ ?_ ?_ ?_ ?_ ?_ ?_ ?_ ?_ ?_
    · funext i
      have a := (hO.1 j hj).1
      refine ha _ _ (by omega) (by omega) (by omega) (fun q hq z => (pv_dS x4 x3 hj hq).2.2 z.symm) (fun q hq z => ?_) (by omega) (by omega) (by unfold kp; omega)
      have : oc q = oc j + 1 := by omega
      exact (pv_dC x4 hq hj).1 this
    · exact hX 0 13 (by omega) (by omega) (by omega) (by omega) (by omega) (by omega) (by unfold kp; omega)
    · exact hX 0 14 (by omega) (by omega) (by omega) (by omega) (by omega) (by omega) (by unfold kp; omega)
    · exact hX 0 15 (by omega) (by omega) (by omega) (by omega) (by omega) (by omega) (by unfold kp; omega)
    · exact hX 0 16 (by omega) (by omega) (by omega) (by omega) (by omega) (by omega) (by unfold kp; omega)
    · exact hX 31 38 (by omega) (by omega) (by omega) (by omega) (by omega) (by omega) (by unfold kp; omega)
    · exact hX 31 39 (by omega) (by omega) (by omega) (by omega) (by omega) (by omega) (by unfold kp; omega)
    · exact hX 31 40 (by omega) (by omega) (by omega) (by omega) (by omega) (by omega) (by unfold kp; omega)
    · exact hX 31 41 (by omega) (by omega) (by omega) (by omega) (by omega) (by omega) (by unfold kp; omega)
    · exact hW 50 (by omega) (by omega) (by omega) (by omega) (by omega) (by omega) (fun i => by unfold kp; omega)
    · exact hW 51 (by omega) (by omega) (by omega) (by omega) (by omega) (by omega) (fun i => by unfold kp; omega)
    · exact hW 52 (by omega) (by omega) (by omega) (by omega) (by omega) (by omega) (fun i => by unfold kp; omega)
/-- one field of a sale, 7 or 8, and its place in the reference's row -/
theorem iv_sale {n c s t r : Nat} {oc os ot : Nat → Nat} {sv cv : pv_V} {S : rk_Sh} {I : rk_I} {R : rk_R} (h1 : rk_LC S R) (h2 : rk_LM S R) (h3 : 57 ≤ n) (h4 : n ≤ 57 + 3 * c + s + 3 * t) (h5 : pv_B c s sv cv) (h6 : pv_X n c s oc os sv cv S I R) (h7 : pv_Y c s sv cv I) (h8 : pv_T n t r ot S I R) (h9 : pv_F I) (h10 : pv_H I) (h11 : pv_G c s t oc os I) {k f w : Nat} {x : Int32} (hk : k < s) (hf : (f = 7 ∧ w < 1001 ∧ x = nI w - 1) ∨ (f = 8 ∧ w < 1000000 ∧ x = nI w)) : iv n S (rk_ui (rk_ui I (os k) f x) (38 + f) k x) R := by
  have hO := h6.1
  have x3 := h6.2.2.2.1
  have x4 := h6.2.2.2.2
  have hok := hO.2.1 k hk
  refine iv_set (sv' := fun j i => if j = k ∧ i = f then w else sv j i) (cv' := cv) h1 h2 h3 h4 h5 h6 h7 h8 h9 h10 h11 ?_ ?_ ?_ h8.2.2.2.2.1 ?_ ?_ (kR_r _)
  · intro q i a b d e g _ _ _
    rw [ui_o (by omega), ui_o (e k hk)]
  · intro j hj
    have hj' := hO.2.1 j hj
    have g := x3 j hj
    have gm := h7.2.2.1 j hj
    have gb := h5.2.2.1 j hj
    rw [ui_o (by omega : os j ≠ 38 + f)]
    by_cases hjk : j = k
    · subst hjk
      rcases hf with ⟨rfl, f2, rfl⟩ | ⟨rfl, f2, rfl⟩
      · refine ⟨fun i a b => ui_n a, ?_, ?_, ?_, ?_, ?_, ?_, fun i hi => ?_⟩
        · rw [ui_s]; simp
        · rw [ui_n (by omega)]; simp; exact g.2.2.2.2.2.2.2.2.2.2
        · show rk_ui _ 45 j _ 45 j = _
          rw [ui_s]; simp
        · show rk_ui _ 45 j _ 46 j = _
          rw [ui_o (by omega), ui_o (by omega)]; simp; exact gm.2.2.2.2.2.2.2.2
        · simp; exact f2
        · simp; exact gb.2.2.2.2.2.2.2.2.2.2
        · simp; omega
      · refine ⟨fun i a b => ui_n b, ?_, ?_, ?_, ?_, ?_, ?_, fun i hi => ?_⟩
        · rw [ui_n (by omega)]; simp; exact g.2.2.2.2.2.2.2.2.2.1
        · rw [ui_s]; simp
        · show rk_ui _ 46 j _ 45 j = _
          rw [ui_o (by omega), ui_o (by omega)]; simp; exact gm.2.2.2.2.2.2.2.1
        · show rk_ui _ 46 j _ 46 j = _
          rw [ui_s]; simp
        · simp; exact gb.2.2.2.2.2.2.2.2.2.1
        · simp; exact f2
        · simp; omega
    · have : os j ≠ os k := fun z => hjk (hO.2.2.2 j k hj hk z)
      rw [ui_o this]
      have e45 : rk_ui (rk_ui I (os k) f x) (38 + f) k x 45 j = I 45 j := by
        rcases hf with ⟨rfl, -, -⟩ | ⟨rfl, -, -⟩
        · show rk_ui _ 45 k x 45 j = _
          rw [ui_n hjk, ui_o (by omega)]
        · rw [ui_o (by omega), ui_o (by omega)]
      have e46 : rk_ui (rk_ui I (os k) f x) (38 + f) k x 46 j = I 46 j := by
        rcases hf with ⟨rfl, -, -⟩ | ⟨rfl, -, -⟩
        · rw [ui_o (by omega), ui_o (by omega)]
        · show rk_ui _ 46 k x 46 j = _
          rw [ui_n hjk, ui_o (by omega)]
      simp only [hjk, false_and, if_false, e45, e46]
      exact ⟨fun _ _ _ => trivial, g.2.2.2.2.2.2.2.2.2.1, g.2.2.2.2.2.2.2.2.2.2, gm.2.2.2.2.2.2.2.1, gm.2.2.2.2.2.2.2.2, gb.2.2.2.2.2.2.2.2.2.1, gb.2.2.2.2.2.2.2.2.2.2, fun _ _ => trivial⟩
  · intro j hj
    have d := (pv_dS x4 x3 hj hk).2.1
    have a := (hO.1 j hj).1
    refine ⟨rfl, rfl, fun i hi => ?_⟩
    rw [ui_o (by omega), ui_o (Ne.symm d), ui_o (by omega), ui_o (by omega)]
    exact ⟨(x4 j hj).2.2.2.2.2.2.2.2.2 i hi, (h7.2.2.2 j hj).2.2 i hi, (h5.2.2.2 j hj).2.2.2 i hi⟩
  · rw [ui_o (by omega), ui_o (by omega)]; exact h8.2.2.2.2.2.1
  · rw [ui_o (by omega), ui_o (by omega)]; exact h8.2.2.2.2.2.2.1
theorem pg_saleK {I : rk_I} {o f k : Nat} {x : Int32} (ho : o ≠ 31) {v : Int32} (h : f_X10_isSale I (nI k) = some v) : f_X10_isSale (rk_ui I o f x) (nI k) = some v := by
  rw [← h]
  unfold f_X10_isSale
  rw [ui_o (Ne.symm ho)]
theorem ck_paper {n : Nat} {S : rk_Sh} {I : rk_I} {R : rk_R} (h : iv n S I R) (a b : Int32) : ∃ v I1 I2, f_X9_paper S I R a b = some (v, I1) ∧ f_X10_paper I1 a b = some (v, I2) ∧ iv n S I2 R := by
  obtain ⟨c, s, t, r, oc, os, ot, sv, cv, h1, h2, h3, h4, h5, h6, h7, h8, h9, h10, h11⟩ := h
  obtain ⟨hO, x1, x2, x3, x4⟩ := h6
  have hs := h5.2.1
  unfold f_X9_paper f_X10_paper
  rcases pg_sale (I' := I) hs x2 (fun k hk => (x3 k hk).1) h7.2.1 a with ⟨k, g1, rfl, g3, g4⟩ | ⟨g3, g4⟩
  · have hok := hO.2.1 k g1
    rcases pg_place b with ⟨e, e1, rfl, e3, e4⟩ | ⟨e3, e4⟩
    · have gI := pg_saleK (o := os k) (f := 7) (x := nI e - 1) (by omega) g4
      refine ⟨nI (sv k 7) - 1, rk_ui I (os k) 7 (nI e - 1), rk_ui (rk_ui I (os k) 7 (nI e - 1)) 45 k (nI e - 1), ?_, ?_, ?_⟩
      · rw [g3, pr_sb, pr_oc1, e3, pr_sb, if_neg (by decide), pr_ck (x3 k g1).2.1, pr_sb, pr_sb, (x3 k g1).2.2.2.2.2.2.2.2.2.1]
      · rw [gI, pr_sb, if_neg (by decide), e4, pr_sb, if_neg (by decide), pr_rd (by omega) (by omega), pr_sb, pr_wr (by omega) (by omega), pr_sb, ui_o (by omega : 45 ≠ os k), (h7.2.2.1 k g1).2.2.2.2.2.2.2.1]
      · exact iv_sale (f := 7) h1 h2 h3 h4 h5 ⟨hO, x1, x2, x3, x4⟩ h7 h8 h9 h10 h11 g1 (Or.inl ⟨rfl, e1, rfl⟩)
    · refine ⟨-2, I, I, ?_, ?_, ⟨c, s, t, r, oc, os, ot, sv, cv, h1, h2, h3, h4, h5, ⟨hO, x1, x2, x3, x4⟩, h7, h8, h9, h10, h11⟩⟩
      · rw [g3, pr_sb, pr_oc1, e3]; rfl
      · rw [g4, pr_sb, if_neg (by decide), e4]; rfl
  · refine ⟨-2, I, I, ?_, ?_, ⟨c, s, t, r, oc, os, ot, sv, cv, h1, h2, h3, h4, h5, ⟨hO, x1, x2, x3, x4⟩, h7, h8, h9, h10, h11⟩⟩
    · rw [g3]; rfl
    · rw [g4]; rfl
theorem ck_pay {n : Nat} {S : rk_Sh} {I : rk_I} {R : rk_R} (h : iv n S I R) (a b : Int32) : ∃ v I1 I2, f_X9_pay S I R a b = some (v, I1) ∧ f_X10_pay I1 a b = some (v, I2) ∧ iv n S I2 R := by
  obtain ⟨c, s, t, r, oc, os, ot, sv, cv, h1, h2, h3, h4, h5, h6, h7, h8, h9, h10, h11⟩ := h
  obtain ⟨hO, x1, x2, x3, x4⟩ := h6
  have hs := h5.2.1
  have hIv : iv n S I R := ⟨c, s, t, r, oc, os, ot, sv, cv, h1, h2, h3, h4, h5, ⟨hO, x1, x2, x3, x4⟩, h7, h8, h9, h10, h11⟩
  unfold f_X9_pay f_X10_pay
  rcases pg_sale (I' := I) hs x2 (fun k hk => (x3 k hk).1) h7.2.1 a with ⟨k, g1, rfl, g3, g4⟩ | ⟨g3, g4⟩
  · have hok := hO.2.1 k g1
    have e8 := (x3 k g1).2.2.2.2.2.2.2.2.2.2
    have m8 := (h7.2.2.1 k g1).2.2.2.2.2.2.2.2
    have b8 := (h5.2.2.1 k g1).2.2.2.2.2.2.2.2.2.2
    rcases pg_coin b with ⟨e, e1, rfl, e3, e4⟩ | ⟨e1, e3, e4⟩
    · have hcmp : (nI e ≤ 999999 - I (os k) 8) ↔ sv k 8 + e < 1000000 := by
        rw [e8, fa_le]
        have l1 : (999999 : Int32).toInt = 999999 := by decide
        have l2 : (nI (sv k 8)).toInt = (sv k 8 : Int) := nI_toInt (by omega)
        have l3 : (nI e).toInt = (e : Int) := nI_toInt (by omega)
        rw [fb_subI (by omega) (by omega)]
        omega
      have hcmp2 : (nI (sv k 8) + nI e ≤ 999999) ↔ sv k 8 + e < 1000000 := by
        rw [nI_add, fa_le, nI_toInt (by omega)]
        have l1 : (999999 : Int32).toInt = 999999 := by decide
        omega
      by_cases hfit : sv k 8 + e < 1000000
      · have gI := pg_saleK (o := os k) (f := 8) (x := nI (sv k 8 + e)) (by omega) g4
        refine ⟨nI (sv k 8 + e), rk_ui I (os k) 8 (nI (sv k 8 + e)), rk_ui (rk_ui I (os k) 8 (nI (sv k 8 + e))) 46 k (nI (sv k 8 + e)), ?_, ?_, ?_⟩
        · rw [g3, pr_sb, pr_oc1, e3, pr_sb, if_neg (by decide), pr_ck (x3 k g1).2.1, pr_sb, if_pos (hcmp.mpr hfit), pr_sb, e8, nI_add, ui_s]
        · rw [gI, pr_sb, if_neg (by decide), e4, pr_sb, if_neg (by decide), pr_rd (by omega) (by omega), pr_sb, ui_o (by omega : 46 ≠ os k), m8, if_pos (hcmp2.mpr hfit), pr_sb, pr_wr (by omega) (by omega), pr_sb, pr_rd (by omega) (by omega), pr_sb, nI_add, ui_s]
        · exact iv_sale (f := 8) h1 h2 h3 h4 h5 ⟨hO, x1, x2, x3, x4⟩ h7 h8 h9 h10 h11 g1 (Or.inr ⟨rfl, hfit, rfl⟩)
      · refine ⟨-4, I, I, ?_, ?_, hIv⟩
        · rw [g3, pr_sb, pr_oc1, e3, pr_sb, if_neg (by decide), pr_ck (x3 k g1).2.1, pr_sb, if_neg (fun z => hfit (hcmp.mp z))]
        · rw [g4, pr_sb, if_neg (by decide), e4, pr_sb, if_neg (by decide), pr_rd (by omega) (by omega), pr_sb, m8, if_neg (fun z => hfit (hcmp2.mp z))]
    · refine ⟨-2, I, I, ?_, ?_, hIv⟩
      · rw [g3, pr_sb, pr_oc1, e3]; rfl
      · rw [g4, pr_sb, if_neg (by decide), e4]; rfl
  · refine ⟨-2, I, I, ?_, ?_, hIv⟩
    · rw [g3]; rfl
    · rw [g4]; rfl
