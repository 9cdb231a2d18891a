/-! CALLS THAT DO LITTLE: cargo, hour, sale, paper, pay, force, feed .. -/
theorem ui_s {I : rk_I} {k i : Nat} {x : Int32} : rk_ui I k i x k i = x := by simp [rk_ui]
theorem ui_n {I : rk_I} {k i j : Nat} {x : Int32} (h : j ≠ i) : rk_ui I k i x k j = I k j := by simp [rk_ui, h]
theorem ui_o {I : rk_I} {k k' i : Nat} {x : Int32} (h : k' ≠ k) : rk_ui I k i x k' = I k' := by funext a; simp [rk_ui, h]
theorem ur_s {R : rk_R} {k i : Nat} {x : Option Nat} : rk_ur R k i x k i = x := by simp [rk_ur]
theorem ur_n {R : rk_R} {k i j : Nat} {x : Option Nat} (h : j ≠ i) : rk_ur R k i x k j = R k j := by simp [rk_ur, h]
theorem ur_o {R : rk_R} {k k' i : Nat} {x : Option Nat} (h : k' ≠ k) : rk_ur R k i x k' = R k' := by funext a; simp [rk_ur, h]
theorem sh_s {S : rk_Sh} {n t N : Nat} : rk_sh S n t N n = (t, N) := by simp [rk_sh]
theorem sh_o {S : rk_Sh} {n t N k : Nat} (h : k ≠ n) : rk_sh S n t N k = S k := by simp [rk_sh, h]
theorem zi_o {I : rk_I} {n k : Nat} (h : k ≠ n) : rk_zi I n k = I k := by simp [rk_zi, h]
theorem zi_s {I : rk_I} {n i : Nat} : rk_zi I n n i = 0 := by simp [rk_zi]
theorem zr_o {R : rk_R} {n k : Nat} (h : k ≠ n) : rk_zr R n k = R k := by simp [rk_zr, h]
theorem zr_s {R : rk_R} {n i : Nat} : rk_zr R n n i = none := by simp [rk_zr]
/-- a number of a thing: both sides' ask -/
theorem pg_cargo {I I' : rk_I} {R : rk_R} {c : Nat} {oc : Nat → Nat} (hc : c ≤ 4) (h1 : I 0 1 = nI c) (hR : ∀ k, k < c → R 1 k = some (oc k)) (h2 : I' 31 10 = nI c) (a : Int32) : (∃ k, k < c ∧ a = nI k ∧ f_X9_cargoAt I R a = some (some (oc k)) ∧ f_X10_isCargo I' a = some 1) ∨ (f_X9_cargoAt I R a = some none ∧ f_X10_isCargo I' a = some 0) := by
  have hh : (nI c - 1).toInt64.toInt = (c : Int) - 1 := by rw [Int32.toInt_toInt64, pr_toM (by omega)]
  have hm : (nI c).toInt = (c : Int) := nI_toInt (by omega)
  unfold f_X9_cargoAt f_X10_isCargo
  rw [h1, h2]
  rcases pr_inN (x := a) (n := c) (by omega) hh with ⟨j, g1, rfl, g3⟩ | ⟨g1, g3⟩
  · left
    refine ⟨j, g1, rfl, ?_, ?_⟩
    · rw [pr_hi hm g1 (by omega), pr_rdR (by omega) (by omega), hR j g1]; rfl
    · rw [g3]; exact pr_bl1
  · right
    refine ⟨pr_lo hm g1 rfl, ?_⟩
    rw [g3]; exact pr_bl0
theorem pg_sale {I I' : rk_I} {R : rk_R} {s : Nat} {os : Nat → Nat} (hc : s ≤ 24) (h1 : I 0 3 = nI s) (hR : ∀ k, k < s → R 2 k = some (os k)) (h2 : I' 31 20 = nI s) (a : Int32) : (∃ k, k < s ∧ a = nI k ∧ f_X9_saleAt I R a = some (some (os k)) ∧ f_X10_isSale I' a = some 1) ∨ (f_X9_saleAt I R a = some none ∧ f_X10_isSale I' a = some 0) := by
  have hh : (nI s - 1).toInt64.toInt = (s : Int) - 1 := by rw [Int32.toInt_toInt64, pr_toM (by omega)]
  have hm : (nI s).toInt = (s : Int) := nI_toInt (by omega)
  unfold f_X9_saleAt f_X10_isSale
  rw [h1, h2]
  rcases pr_inN (x := a) (n := s) (by omega) hh with ⟨j, g1, rfl, g3⟩ | ⟨g1, g3⟩
  · left
    refine ⟨j, g1, rfl, ?_, ?_⟩
    · rw [pr_hi hm g1 (by omega), pr_rdR (by omega) (by omega), hR j g1]; rfl
    · rw [g3]; exact pr_bl1
  · right
    refine ⟨pr_lo hm g1 rfl, ?_⟩
    rw [g3]; exact pr_bl0
theorem pr_0 : ((0 : Int32) = 0) = True := by simp
theorem pr_10 : ((1 : Int32) = 0) = False := by decide
/-- the class's cells hold with other tags, ints and references outside of them -/
theorem mX {n n' c s : Nat} {oc os : Nat → Nat} {sv cv : pv_V} {S S' : rk_Sh} {I I' : rk_I} {R R' : rk_R} (h : pv_X n c s oc os sv cv S I R) (hn : n ≤ n') (hS : ∀ k, 57 ≤ k → k < n → S' k = S k) (hI : ∀ k, 57 ≤ k → k < n → I' k = I k) (h1 : I' 0 1 = I 0 1) (h3 : I' 0 3 = I 0 3) (hR : ∀ k, 57 ≤ k → k < n → R' k = R k) (r1 : R' 1 = R 1) (r2 : R' 2 = R 2) : pv_X n' c s oc os sv cv S' I' R' := by
  obtain ⟨hO, g1, g2, g3, g4⟩ := h
  refine ⟨⟨fun k hk => ?_, fun k hk => ?_, hO.2.2.1, hO.2.2.2⟩, by rw [h1]; exact g1, by rw [h3]; exact g2, fun k hk => ?_, fun k hk => ?_⟩
  · have := hO.1 k hk; omega
  · have := hO.2.1 k hk; omega
  · have := hO.2.1 k hk
    rw [hI _ this.1 this.2, hS _ this.1 this.2, hR _ this.1 this.2, r2]
    exact g3 k hk
  · have := hO.1 k hk
    rw [hI (oc k) (by omega) (by omega), hI (oc k + 1) (by omega) (by omega), hS (oc k) (by omega) (by omega), hS (oc k + 1) (by omega) (by omega), hS (oc k + 2) (by omega) (by omega), hR (oc k) (by omega) (by omega), r1]
    exact g4 k hk
theorem mT {n n' t r : Nat} {ot : Nat → Nat} {S S' : rk_Sh} {I I' : rk_I} {R R' : rk_R} (h : pv_T n t r ot S I R) (hn : n ≤ n') (hn0 : 57 ≤ n) (h5 : I' 0 5 = I 0 5) (h6 : I' 0 6 = I 0 6) (g3 : I' 31 3 = I 31 3) (g4 : I' 31 4 = I 31 4) (g32 : I' 32 = I 32) (g33 : I' 33 = I 33) (hS : ∀ k, k < t → S' (ot k) = S (ot k) ∧ S' (ot k + 1) = S (ot k + 1) ∧ S' (ot k + 2) = S (ot k + 2)) (hI : ∀ k, k < t → I' (ot k + 1) = I (ot k + 1) ∧ I' (ot k + 2) = I (ot k + 2)) (hR : ∀ k, k < t → R' (ot k) = R (ot k)) (r3 : R' 3 = R 3) : pv_T n' t r ot S' I' R' := by
  obtain ⟨h1, h2, h3, h4, h5', h6', h7, h8⟩ := h
  refine ⟨h1, h2, by rw [h5]; exact h3, by rw [g3]; exact h4, h5', by rw [h6]; exact h6', by rw [g4]; exact h7, fun k hk => ?_⟩
  have g := h8 k hk
  obtain ⟨s1, s2, s3⟩ := hS k hk
  obtain ⟨i1, i2⟩ := hI k hk
  rw [s1, s2, s3, i1, i2, hR k hk, r3, g32, g33]
  refine ⟨g.1, ?_, g.2.2⟩
  rcases g.2.1 with h | h
  · exact Or.inl h
  · exact Or.inr ⟨h.1, by omega⟩
theorem mG {n c c' s s' t t' : Nat} {oc oc' os os' : Nat → Nat} {I I' : rk_I} (h : pv_G c s t oc os I) (hO : pv_O n c s oc os) (hc : c ≤ c') (hs : s ≤ s') (ht : t ≤ t') (ho : ∀ k, k < c → oc' k = oc k) (hos : ∀ k, k < s → os' k = os k) (hI : ∀ k, k < s → I' (os k) 9 = I (os k) 9 ∧ I' (os k) 10 = I (os k) 10) (hI2 : ∀ k, k < c → I' (oc k + 2) = I (oc k + 2)) (e13 : I' 0 13 = I 0 13) (e14 : I' 0 14 = I 0 14) (e15 : I' 0 15 = I 0 15) (e16 : I' 0 16 = I 0 16) (f8 : I' 31 38 = I 31 38) (f9 : I' 31 39 = I 31 39) (f0 : I' 31 40 = I 31 40) (f1 : I' 31 41 = I 31 41) (g0 : I' 50 = I 50) (g1 : I' 51 = I 51) (g2 : I' 52 = I 52) : pv_G c' s' t' oc' os' I' := by
  obtain ⟨x, ic, is, ir, h1, h2, h3, h4, h5, h6, h7, h8, h9, h10, h11, h12, h13, h14⟩ := h
  refine ⟨x, ic, is, ir, h1, by rw [e13]; exact h2, by rw [f8]; exact h3, by omega, by rw [e14]; exact h5, by rw [f9]; exact h6, by omega, by rw [e15]; exact h8, by rw [f0]; exact h9, by omega, by rw [e16]; exact h11, by rw [f1]; exact h12, fun k hk => ?_, fun k hk j hj => ?_⟩
  · rw [hos k (by omega), (hI k (by omega)).1, (hI k (by omega)).2, g1, g2]
    exact h13 k hk
  · rw [ho k (by omega), hI2 k (by omega), g0]
    exact h14 k hk j hj
theorem mY {c s : Nat} {sv cv : pv_V} {I I' : rk_I} (h : pv_Y c s sv cv I) (h1 : I' 31 10 = I 31 10) (h2 : I' 31 20 = I 31 20) (e : ∀ k, 35 ≤ k → k < 47 → I' k = I k) : pv_Y c s sv cv I' := by
  obtain ⟨g1, g2, g3, g4⟩ := h
  refine ⟨h1.trans g1, h2.trans g2, fun k hk => ?_, fun k hk => ?_⟩
  · rw [e 38 (by omega) (by omega), e 39 (by omega) (by omega), e 40 (by omega) (by omega), e 41 (by omega) (by omega), e 42 (by omega) (by omega), e 43 (by omega) (by omega), e 44 (by omega) (by omega), e 45 (by omega) (by omega), e 46 (by omega) (by omega)]
    exact g3 k hk
  · rw [e 35 (by omega) (by omega), e 36 (by omega) (by omega), e 37 (by omega) (by omega)]
    exact g4 k hk
theorem mF {I I' : rk_I} (h : pv_F I) (h1 : I' 4 1 = I 4 1) (h2 : I' 31 6 = I 31 6) (h3 : I' 5 = I 5) (h4 : I' 34 = I 34) : pv_F I' := by
  unfold pv_F
  rw [h1, h2, h3, h4]
  exact h
theorem mH {I I' : rk_I} (h : pv_H I) (h1 : ∀ k, 20 ≤ k → k < 28 → I' k = I k) (h2 : ∀ k, 53 ≤ k → k < 57 → I' k = I k) : pv_H I' := by
  intro q hq
  rw [h1 (20 + 2 * q) (by omega) (by omega), h1 (21 + 2 * q) (by omega) (by omega), h2 53 (by omega) (by omega), h2 54 (by omega) (by omega), h2 55 (by omega) (by omega), h2 56 (by omega) (by omega)]
  exact h q hq
theorem pv_dC {c : Nat} {oc : Nat → Nat} {cv : pv_V} {S : rk_Sh} {I : rk_I} {R : rk_R} (h : pv_CC c oc cv S I R) {i j : Nat} (hi : i < c) (hj : j < c) : oc i ≠ oc j + 1 ∧ oc i ≠ oc j + 2 := by
  have a := (h i hi).2.1
  have b := (h j hj).2.2.1
  have d := (h j hj).2.2.2.1
  constructor
  · intro e
    rw [e, b] at a
    cases a
  · intro e
    rw [e, d] at a
    cases a
theorem pv_dS {c s : Nat} {oc os : Nat → Nat} {sv cv : pv_V} {S : rk_Sh} {I : rk_I} {R : rk_R} (h : pv_CC c oc cv S I R) (h2 : pv_CS s oc os sv S I R) {i j : Nat} (hi : i < c) (hj : j < s) : os j ≠ oc i ∧ os j ≠ oc i + 1 ∧ os j ≠ oc i + 2 := by
  have a := (h i hi).2.1
  have b := (h i hi).2.2.1
  have d := (h i hi).2.2.2.1
  have g := (h2 j hj).2.1
  refine ⟨?_, ?_, ?_⟩
  · intro e
    rw [e, a] at g
    cases g
  · intro e
    rw [e, b] at g
    cases g
  · intro e
    rw [e, d] at g
    cases g
theorem ck_force {n : Nat} {S : rk_Sh} {I : rk_I} {R : rk_R} (h : iv n S I R) (a : Int32) : ∃ v I1 I2, f_X9_force I a = some (v, I1) ∧ f_X10_force I1 a = some (v, I2) ∧ iv n S I2 R := by
  obtain ⟨c, s, t, r, oc, os, ot, sv, cv, h1, h2, h3, h4, h5, h6, h7, h8, h9, h10, h11⟩ := h
  obtain ⟨t1, t2, t3, t4, t5, t6, t7, t8⟩ := h8
  have hh : (nI t - 1).toInt64.toInt = (t : Int) - 1 := by rw [Int32.toInt_toInt64, pr_toM (by omega)]
  have hm : (nI t).toInt = (t : Int) := nI_toInt (by omega)
  unfold f_X9_force f_X10_force
  rw [t3, t6]
  rcases pr_inN (x := a) (n := t) (by omega) hh with ⟨j, g1, rfl, g3⟩ | ⟨g1, g3⟩
  · refine ⟨nI r, rk_ui I 0 6 (nI j), rk_ui (rk_ui I 0 6 (nI j)) 31 4 (nI j), ?_, ?_, ?_⟩
    · rw [if_neg (nI_pos (by omega)), if_pos (nI_lt g1 (by omega))]
      rfl
    · rw [ui_o (by omega : 31 ≠ 0), t4, g3, pr_sb, if_neg (by decide), t7]
      rfl
    · refine ⟨c, s, t, j, oc, os, ot, sv, cv, h1, h2, h3, h4, h5, ?_, ?_, ?_, ?_, ?_, ?_⟩
      · exact mX h6 (Nat.le_refl _) (fun _ _ _ => rfl) (fun k hk _ => by rw [ui_o (by omega), ui_o (by omega)]) (by rw [ui_o (by omega), ui_n (by omega)]) (by rw [ui_o (by omega), ui_n (by omega)]) (fun _ _ _ => rfl) rfl rfl
      · exact mY h7 (by rw [ui_n (by omega), ui_o (by omega)]) (by rw [ui_n (by omega), ui_o (by omega)]) (fun k _ _ => by rw [ui_o (by omega), ui_o (by omega)])
      · refine ⟨t1, t2, ?_, ?_, g1, ?_, ?_, fun k hk => ?_⟩
        · rw [ui_o (by omega), ui_n (by omega)]; exact t3
        · rw [ui_n (by omega), ui_o (by omega)]; exact t4
        · rw [ui_o (by omega), ui_s]
        · rw [ui_s]
        · have hb := (t8 k hk).2.1
          rw [ui_o (by omega : 32 ≠ 31), ui_o (by omega : 33 ≠ 31), ui_o (by omega : ot k + 1 ≠ 31), ui_o (by omega : ot k + 2 ≠ 31), ui_o (by omega : 32 ≠ 0), ui_o (by omega : 33 ≠ 0), ui_o (by omega : ot k + 1 ≠ 0), ui_o (by omega : ot k + 2 ≠ 0)]
          exact t8 k hk
      · exact mF h9 (by rw [ui_o (by omega), ui_o (by omega)]) (by rw [ui_n (by omega), ui_o (by omega)]) (by rw [ui_o (by omega), ui_o (by omega)]) (by rw [ui_o (by omega), ui_o (by omega)])
      · exact mH h10 (fun k _ _ => by rw [ui_o (by omega), ui_o (by omega)]) (fun k _ _ => by rw [ui_o (by omega), ui_o (by omega)])
      · refine mG h11 h6.1 (Nat.le_refl _) (Nat.le_refl _) (Nat.le_refl _) (fun _ _ => rfl) (fun _ _ => rfl) (fun k hk => ?_) (fun k hk => ?_) ?_ ?_ ?_ ?_ ?_ ?_ ?_ ?_ ?_ ?_ ?_
        · have := h6.1.2.1 k hk
          rw [ui_o (by omega), ui_o (by omega)]
          exact ⟨rfl, rfl⟩
        · have := h6.1.1 k hk
          rw [ui_o (by omega), ui_o (by omega)]
        all_goals first | rw [ui_o (by omega), ui_n (by omega)] | rw [ui_n (by omega), ui_o (by omega)] | rw [ui_o (by omega), ui_o (by omega)]
  · refine ⟨-2, I, I, ?_, ?_, ⟨c, s, t, r, oc, os, ot, sv, cv, h1, h2, h3, h4, h5, h6, h7, ⟨t1, t2, t3, t4, t5, t6, t7, t8⟩, h9, h10, h11⟩⟩
    · by_cases h0 : a < 0
      · rw [if_pos h0]
      · rw [if_neg h0, if_neg]
        rw [fa_lt, pr_z] at h0
        rw [fa_lt, hm]
        omega
    · rw [t4, g3]
      rfl
