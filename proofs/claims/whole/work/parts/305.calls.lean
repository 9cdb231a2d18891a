/-! hour, cargo, sale -/
theorem pg_cargoK {I : rk_I} {o f k : Nat} {x : Int32} (ho : o ≠ 31) {v : Int32} (h : f_X10_isCargo I (nI k) = some v) : f_X10_isCargo (rk_ui I o f x) (nI k) = some v := by
  rw [← h]
  unfold f_X10_isCargo
  rw [ui_o (Ne.symm ho)]
/-- one hour of a cargo -/
theorem iv_hour {n c s t r : Nat} {oc os ot : Nat → Nat} {sv cv : pv_V} {S : rk_Sh} {I : rk_I} {R : rk_R} (h1 : rk_LC S R) (h2 : rk_LM S R) (h3 : 57 ≤ n) (h4 : n ≤ 57 + 3 * c + s + 3 * t) (h5 : pv_B c s sv cv) (h6 : pv_X n c s oc os sv cv S I R) (h7 : pv_Y c s sv cv I) (h8 : pv_T n t r ot S I R) (h9 : pv_F I) (h10 : pv_H I) (h11 : pv_G c s t oc os I) {k f w : Nat} (hk : k < c) (hf : f < 3) (hw : w < 1001) : iv n S (rk_ui (rk_ui I (oc k + 1) f (nI w - 1)) 37 (3 * k + f) (nI w - 1)) R := by
  have hO := h6.1
  have x3 := h6.2.2.2.1
  have x4 := h6.2.2.2.2
  have hok := hO.1 k hk
  refine iv_set (sv' := sv) (cv' := fun j i => if j = k ∧ i = 2 + f then w else cv j i) h1 h2 h3 h4 h5 h6 h7 h8 h9 h10 h11 ?_ ?_ ?_ h8.2.2.2.2.1 ?_ ?_ (kR_r _)
  · intro q i a b d e g _ _ _
    rw [ui_o (by omega), ui_o (g k hk)]
  · intro j hj
    have hj' := hO.2.1 j hj
    have d := pv_dS x4 x3 hk hj
    have g := x3 j hj
    have gm := h7.2.2.1 j hj
    have gb := h5.2.2.1 j hj
    rw [ui_o (by omega : os j ≠ 37), ui_o d.2.1, ui_o (by omega), ui_o (by omega), ui_o (by omega), ui_o (by omega)]
    exact ⟨fun _ _ _ => rfl, g.2.2.2.2.2.2.2.2.2.1, g.2.2.2.2.2.2.2.2.2.2, gm.2.2.2.2.2.2.2.1, gm.2.2.2.2.2.2.2.2, gb.2.2.2.2.2.2.2.2.2.1, gb.2.2.2.2.2.2.2.2.2.2, fun _ _ => rfl⟩
  · intro j hj
    have a := (hO.1 j hj).1
    refine ⟨if_neg (by omega), if_neg (by omega), fun i hi => ?_⟩
    have g := (x4 j hj).2.2.2.2.2.2.2.2.2 i hi
    have gm := (h7.2.2.2 j hj).2.2 i hi
    have gb := (h5.2.2.2 j hj).2.2.2 i hi
    rw [ui_o (by omega : oc j + 1 ≠ 37)]
    by_cases hjk : j = k
    · subst hjk
      by_cases hi2 : i = f
      · subst hi2
        rw [ui_s, ui_s]
        simp
        exact hw
      · rw [ui_n hi2, ui_n (by omega), ui_o (by omega)]
        simp only [true_and]
        rw [if_neg (by omega)]
        exact ⟨g, gm, gb⟩
    · have : oc j + 1 ≠ oc k + 1 := fun z => hjk (hO.2.2.1 j k hj hk (by omega))
      rw [ui_o this, ui_n (by omega), ui_o (by omega)]
      simp only [hjk, false_and, if_false]
      exact ⟨g, gm, gb⟩
  · rw [ui_o (by omega), ui_o (by omega)]; exact h8.2.2.2.2.2.1
  · rw [ui_o (by omega), ui_o (by omega)]; exact h8.2.2.2.2.2.2.1
theorem ck_hour {n : Nat} {S : rk_Sh} {I : rk_I} {R : rk_R} (h : iv n S I R) (a b d : Int32) : ∃ v I1 I2, f_X9_hour S I R a b d = some (v, I1) ∧ f_X10_hour I1 a b d = some (v, I2) ∧ iv n S I2 R := by
  obtain ⟨c, s, t, r, oc, os, ot, sv, cv, h1, h2, h3, h4, h5, h6, h7, h8, h9, h10, h11⟩ := h
  obtain ⟨hO, x1, x2, x3, x4⟩ := h6
  have hIv : iv n S I R := ⟨c, s, t, r, oc, os, ot, sv, cv, h1, h2, h3, h4, h5, ⟨hO, x1, x2, x3, x4⟩, h7, h8, h9, h10, h11⟩
  have hc := h5.1
  unfold f_X9_hour f_X10_hour
  rcases pg_cargo (I' := I) hc x1 (fun k hk => (x4 k hk).1) h7.1 a with ⟨k, g1, rfl, g3, g4⟩ | ⟨g3, g4⟩
  · have hok := hO.1 k g1
    rcases pg_what b (h := 2) 3 (by omega) (by decide) with ⟨f, f1, rfl, f3⟩ | ⟨f1, f3⟩
    · rcases pg_place d with ⟨e, e1, rfl, e3, e4⟩ | ⟨e3, e4⟩
      · have gI := pg_cargoK (o := oc k + 1) (f := f) (x := nI e - 1) (by omega) g4
        refine ⟨nI (cv k (2 + f)) - 1, rk_ui I (oc k + 1) f (nI e - 1), rk_ui (rk_ui I (oc k + 1) f (nI e - 1)) 37 (3 * k + f) (nI e - 1), ?_, ?_, ?_⟩
        · rw [g3, pr_sb, pr_oc1, pr_hi (n := 3) (by decide) f1 (by omega), e3, pr_sb, if_neg (by decide), pr_ck (x4 k g1).2.1, pr_sb, pr_sb, (x4 k g1).2.2.2.2.1, pr_sb, pr_rdD (x4 k g1).2.2.1 f1 (by omega), pr_sb, pr_sb, pr_sb, pr_wrD (x4 k g1).2.2.1 f1 (by omega), pr_sb, (x4 k g1).2.2.2.2.2.2.2.2.2 f f1]
        · have e3k : (3 : Int32) * nI k + nI f = nI (3 * k + f) := by rw [pr_lit 3, pk_mul, nI_add]
          rw [gI, pr_sb, if_neg (by decide), f3, pr_sb, if_neg (by decide), e4, pr_sb, if_neg (by decide), e3k, pr_rd (by omega) (by omega), pr_sb, pr_wr (by omega) (by omega), pr_sb, ui_o (by omega : 37 ≠ oc k + 1), (h7.2.2.2 k g1).2.2 f f1]
        · exact iv_hour h1 h2 h3 h4 h5 ⟨hO, x1, x2, x3, x4⟩ h7 h8 h9 h10 h11 g1 f1 e1
      · refine ⟨-2, I, I, ?_, ?_, hIv⟩
        · rw [g3, pr_sb, pr_oc1, pr_hi (n := 3) (by decide) f1 (by omega), e3]; rfl
        · rw [g4, pr_sb, if_neg (by decide), f3, pr_sb, if_neg (by decide), e4]; rfl
    · refine ⟨-2, I, I, ?_, ?_, hIv⟩
      · rw [g3, pr_sb, pr_oc1]
        exact pr_lo (n := 3) (by decide) f1 rfl
      · rw [g4, pr_sb, if_neg (by decide), f3]; rfl
  · refine ⟨-2, I, I, ?_, ?_, hIv⟩
    · rw [g3]; rfl
    · rw [g4]; rfl
/-- what the class lays out for a cargo -/
theorem cg_init {n : Nat} {S : rk_Sh} {I : rk_I} {J : rk_J} {R : rk_R} {k x y : Int32} (hn : n < 800000) (hS : S n = (0, 5)) : ∃ I1 J1 R1, f_X0_init (n + 1) S I J R n k x y = some (n + 3, rk_sh (rk_sh S (n + 1) 20 3) (n + 2) 20 3, I1, J1, R1) ∧ (∀ q, q ≠ n → q ≠ n + 1 → q ≠ n + 2 → I1 q = I q) ∧ I1 n 0 = k ∧ I1 n 1 = x ∧ I1 n 2 = y ∧ (∀ j, j < 3 → I1 (n + 1) j = -1) ∧ (∀ q, q ≠ n → q ≠ n + 1 → q ≠ n + 2 → R1 q = R q) ∧ R1 n 3 = some (n + 1) ∧ R1 n 4 = some (n + 2) := by
  have w : ∀ (S' : rk_Sh) (I' : rk_I) (p i : Nat) (z : Int32), S' p = (20, 3) → i < 3 → rk_wrD S' I' p (nI i) z = some (rk_ui I' p i z) := fun S' I' p i z a b => pr_wrD a b (by omega)
  have e : f_X0_init (n + 1) S I J R n k x y = f_X0_init (n + 1) S I J R n k x y := rfl
  conv at e =>
    rhs
    unfold f_X0_init
    rw [pr_nck (by omega), pr_sb, pr_sb, pr_sb, pr_sb, pr_sb]
    rw [show (0 : Int32) = nI 0 from rfl, show (1 : Int32) = nI 1 from rfl, show (2 : Int32) = nI 2 from rfl]
    rw [w _ _ (n + 1) 0 _ sh_s (by omega), pr_sb, w _ _ (n + 1) 1 _ sh_s (by omega), pr_sb, w _ _ (n + 1) 2 _ sh_s (by omega), pr_sb]
    rw [pr_ck (by rw [sh_o (by omega)]; exact hS), pr_sb, pr_sb, pr_nck (by omega), pr_sb, pr_sb, pr_sb, pr_sb, pr_sb]
    rw [w _ _ (n + 1 + 1) 0 _ sh_s (by omega), pr_sb, w _ _ (n + 1 + 1) 1 _ sh_s (by omega), pr_sb, w _ _ (n + 1 + 1) 2 _ sh_s (by omega), pr_sb]
    rw [pr_ck (by rw [sh_o (by omega), sh_o (by omega)]; exact hS), pr_sb, pr_sb, pr_sb, pr_sb, pr_sb]
  refine ⟨_, _, _, e, fun q a b d => ?_, ?_, ?_, ?_, fun j hj => ?_, fun q a b d => ?_, ?_, ?_⟩
  · simp (disch := omega) only [ui_o, zi_o]
  · simp (disch := omega) only [ui_s, ui_n]
  · simp (disch := omega) only [ui_s, ui_n]
  · simp (disch := omega) only [ui_s, ui_n]
  · rcases (by omega : j = 0 ∨ j = 1 ∨ j = 2) with rfl | rfl | rfl
    · simp (disch := omega) only [ui_s, ui_n, ui_o, zi_o]; rfl
    · simp (disch := omega) only [ui_s, ui_n, ui_o, zi_o]; rfl
    · simp (disch := omega) only [ui_s, ui_n, ui_o, zi_o]; rfl
  · simp (disch := omega) only [ur_o, zr_o]
  · simp (disch := omega) only [ur_s, ur_n, ur_o, zr_o]
  · simp (disch := omega) only [ur_s, ur_n]

theorem LC_new {S S' : rk_Sh} {R R' : rk_R} (h : rk_LC S R) (hS : ∀ k, k < 28 → S' k = S k) (hR : ∀ k, k < 28 → k ≠ 1 → k ≠ 2 → k ≠ 3 → R' k = R k) : rk_LC S' R' := by
  refine ⟨fun k hk => (hS k hk).trans (h.1 k hk), fun k i q hq => ?_⟩
  have h1 := h.2 k i q hq
  have hk : k < 28 ∧ k ≠ 1 ∧ k ≠ 2 ∧ k ≠ 3 := by
    unfold rk_cR at hq
    split at hq <;> first | omega | cases hq
  rw [hR k hk.1 hk.2.1 hk.2.2.1 hk.2.2.2]
  exact h1
theorem LM_new {S S' : rk_Sh} {R R' : rk_R} (h : rk_LM S R) (hS : ∀ k, 31 ≤ k → k < 57 → S' k = S k) (hR : ∀ k, 31 ≤ k → k < 57 → R' k = R k) : rk_LM S' R' := by
  refine ⟨fun k hk hk2 => (hS k hk hk2).trans (h.1 k hk hk2), fun k i q hq => ?_⟩
  have h1 := h.2 k i q hq
  have hk : 31 ≤ k ∧ k < 57 := by
    unfold rk_mR at hq
    split at hq <;> first | omega | cases hq
  rw [hR k hk.1 hk.2]
  exact h1
theorem cm_st {c k : Nat} {I : rk_I} (hc : c < 4) (hk : k < 3) (h : I 31 10 = nI c) : f_X10_cargo_l55 I (nI k) = some (.inl (nI (k + 1), rk_ui I 37 (3 * c + k) (-1))) := by
  unfold f_X10_cargo_l55
  have m3 : (3 : Int32).toInt = 3 := by decide
  rw [if_neg (by rw [fa_le, nI_toInt (by omega), m3]; omega), h]
  have e : (3 : Int32) * nI c + nI k = nI (3 * c + k) := by rw [pr_lit 3, pk_mul, nI_add]
  rw [e, pr_wr (by omega) (by omega), pr_sb, nI_1]
theorem cm_loop {c : Nat} {I : rk_I} (hc : c < 4) (h : I 31 10 = nI c) : rk_while (fun a9 : Int32 × rk_I => f_X10_cargo_l55 a9.2 a9.1) (0, I) = some (nI 3, rk_ui (rk_ui (rk_ui I 37 (3 * c + 0) (-1)) 37 (3 * c + 1) (-1)) 37 (3 * c + 2) (-1)) := by
  refine (rk_while_in (a := (nI 0, I)) (cm_st hc (by omega) h)).trans ?_
  refine (rk_while_in (cm_st hc (by omega) ?_)).trans ?_
  · simp (disch := omega) only [ui_o]; exact h
  refine (rk_while_in (cm_st hc (by omega) ?_)).trans ?_
  · simp (disch := omega) only [ui_o]; exact h
  exact rk_while_out (if_pos (show (3 : Int32) ≤ nI 3 by decide))
/-- a cargo more -/
theorem iv_cargo {n c s t r : Nat} {oc os ot : Nat → Nat} {sv cv : pv_V} {S S' : rk_Sh} {I I' : rk_I} {R R' : rk_R} (h1 : rk_LC S R) (h2 : rk_LM S R) (h3 : 57 ≤ n) (h4 : n ≤ 57 + 3 * c + s + 3 * t) (h5 : pv_B c s sv cv) (h6 : pv_X n c s oc os sv cv S I R) (h7 : pv_Y c s sv cv I) (h8 : pv_T n t r ot S I R) (h9 : pv_F I) (h10 : pv_H I) (h11 : pv_G c s t oc os I) {w d : Nat} (hc : c < 4) (hw : 1 ≤ w ∧ w < 1000) (hd : d < 10)
    (hS : ∀ k, k < n → S' k = S k) (hS1 : S' n = (0, 5)) (hS2 : S' (n + 1) = (20, 3)) (hS3 : S' (n + 2) = (20, 3))
    (hI : ∀ k, k < n → k ≠ 0 → k ≠ 31 → k ≠ 35 → k ≠ 36 → k ≠ 37 → I' k = I k) (hI0 : ∀ i, i ≠ 1 → I' 0 i = I 0 i) (hI31 : ∀ i, i ≠ 10 → I' 31 i = I 31 i) (c1 : I' 0 1 = nI (c + 1)) (c2 : I' 31 10 = nI (c + 1))
    (hn0 : I' n 0 = nI c) (hn1 : I' n 1 = nI w) (hn2 : I' n 2 = nI d) (hn3 : ∀ j, j < 3 → I' (n + 1) j = -1)
    (m1 : ∀ i, i ≠ c → I' 35 i = I 35 i) (m2 : I' 35 c = nI w) (m3 : ∀ i, i ≠ c → I' 36 i = I 36 i) (m4 : I' 36 c = nI d) (m5 : ∀ i, i < 3 * c → I' 37 i = I 37 i) (m6 : ∀ j, j < 3 → I' 37 (3 * c + j) = -1)
    (hR : ∀ k, k < n → k ≠ 1 → R' k = R k) (hR1 : ∀ i, i ≠ c → R' 1 i = R 1 i) (hR2 : R' 1 c = some n) (hR3 : R' n 3 = some (n + 1)) (hR4 : R' n 4 = some (n + 2)) : iv (n + 3) S' I' R' := by
  obtain ⟨hO, x1, x2, x3, x4⟩ := h6
  have ho : ∀ k, k < c → oc k < n ∧ 57 ≤ oc k ∧ oc k + 2 < n := fun k hk => by have := hO.1 k hk; omega
  refine ⟨c + 1, s, t, r, fun k => if k = c then n else oc k, os, ot, sv, fun k i => if k = c then (if i = 0 then w else if i = 1 then d else 0) else cv k i, LC_new h1 (fun k hk => hS k (by omega)) (fun k hk a _ _ => hR k (by omega) a), LM_new h2 (fun k _ hk => hS k (by omega)) (fun k a hk => hR k (by omega) (by omega)), by omega, by omega, ⟨by omega, h5.2.1, fun k hk => ?_, fun k hk => ?_⟩, ⟨⟨fun k hk => ?_, fun k hk => ?_, fun i j hi hj hij => ?_, hO.2.2.2⟩, c1, ?_, fun k hk => ?_, fun k hk => ?_⟩, ⟨c2, ?_, fun k hk => ?_, fun k hk => ?_⟩, ?_, ?_, ?_, ?_⟩
  · have := h5.2.2.1 k hk; omega
  · by_cases hkc : k = c
    · simp only [hkc, if_true, show (1 : Nat) ≠ 0 by decide, if_false]
      refine ⟨hw.1, hw.2, hd, fun j hj => ?_⟩
      rw [if_neg (by omega), if_neg (by omega)]
      omega
    · simp only [hkc, if_false]; exact h5.2.2.2 k (by omega)
  · by_cases hkc : k = c
    · simp only [hkc, if_true]; omega
    · simp only [hkc, if_false]; have := ho k (by omega); omega
  · have := hO.2.1 k hk; omega
  · by_cases hic : i = c <;> by_cases hjc : j = c
    · omega
    · simp only [hic, hjc, if_true, if_false] at hij; have := ho j (by omega); omega
    · simp only [hic, hjc, if_true, if_false] at hij; have := ho i (by omega); omega
    · simp only [hic, hjc, if_false] at hij; exact hO.2.2.1 i j (by omega) (by omega) hij
  · rw [hI0 3 (by omega)]; exact x2
  · have a := hO.2.1 k hk
    have b := h5.2.2.1 k hk
    have e : (if sv k 1 = c then n else oc (sv k 1)) = oc (sv k 1) := if_neg (by omega)
    rw [hI (os k) (by omega) (by omega) (by omega) (by omega) (by omega) (by omega), hS (os k) (by omega), hR (os k) (by omega) (by omega), hR 2 (by omega) (by omega)]
    simp only [e]
    exact x3 k hk
  · by_cases hkc : k = c
    · simp only [hkc, if_true, hR2, hS1, hS2, hS3, hR3, hR4, hn0, hn1, hn2, true_and, show (1 : Nat) ≠ 0 by decide, if_false]
      intro j hj
      rw [hn3 j hj, if_neg (by omega), if_neg (by omega)]
      exact pr_m1
    · have a := ho k (by omega)
      simp only [hkc, if_false]
      rw [hI (oc k) (by omega) (by omega) (by omega) (by omega) (by omega) (by omega), hI (oc k + 1) (by omega) (by omega) (by omega) (by omega) (by omega) (by omega), hS (oc k) (by omega), hS (oc k + 1) (by omega), hS (oc k + 2) (by omega), hR (oc k) (by omega) (by omega), hR1 k hkc]
      exact x4 k (by omega)
  · rw [hI31 20 (by omega)]; exact h7.2.1
  · rw [hI 38 (by omega) (by omega) (by omega) (by omega) (by omega) (by omega), hI 39 (by omega) (by omega) (by omega) (by omega) (by omega) (by omega), hI 40 (by omega) (by omega) (by omega) (by omega) (by omega) (by omega), hI 41 (by omega) (by omega) (by omega) (by omega) (by omega) (by omega), hI 42 (by omega) (by omega) (by omega) (by omega) (by omega) (by omega), hI 43 (by omega) (by omega) (by omega) (by omega) (by omega) (by omega), hI 44 (by omega) (by omega) (by omega) (by omega) (by omega) (by omega), hI 45 (by omega) (by omega) (by omega) (by omega) (by omega) (by omega), hI 46 (by omega) (by omega) (by omega) (by omega) (by omega) (by omega)]
    exact h7.2.2.1 k hk
  · by_cases hkc : k = c
    · simp only [hkc, if_true, m2, m4, true_and, show (1 : Nat) ≠ 0 by decide, if_false]
      intro j hj
      rw [m6 j hj, if_neg (by omega), if_neg (by omega)]
      exact pr_m1
    · simp only [hkc, if_false]
      rw [m1 k hkc, m3 k hkc]
      obtain ⟨g1, g2, g3⟩ := h7.2.2.2 k (by omega)
      exact ⟨g1, g2, fun j hj => by rw [m5 _ (by omega)]; exact g3 j hj⟩
  · have hot := fun q hq => (h8.2.2.2.2.2.2.2 q hq).2.1
    refine mT h8 (by omega) h3 (hI0 5 (by omega)) (hI0 6 (by omega)) (hI31 3 (by omega)) (hI31 4 (by omega)) (hI 32 (by omega) (by omega) (by omega) (by omega) (by omega) (by omega)) (hI 33 (by omega) (by omega) (by omega) (by omega) (by omega) (by omega)) (fun q hq => ?_) (fun q hq => ?_) (fun q hq => ?_) (hR 3 (by omega) (by omega))
    · have := hot q hq
      exact ⟨hS _ (by omega), hS _ (by omega), hS _ (by omega)⟩
    · have := hot q hq
      exact ⟨hI _ (by omega) (by omega) (by omega) (by omega) (by omega) (by omega), hI _ (by omega) (by omega) (by omega) (by omega) (by omega) (by omega)⟩
    · have := hot q hq
      exact hR _ (by omega) (by omega)
  · exact mF h9 (by rw [hI 4 (by omega) (by omega) (by omega) (by omega) (by omega) (by omega)]) (hI31 6 (by omega)) (hI 5 (by omega) (by omega) (by omega) (by omega) (by omega) (by omega)) (hI 34 (by omega) (by omega) (by omega) (by omega) (by omega) (by omega))
  · exact mH h10 (fun k _ _ => hI k (by omega) (by omega) (by omega) (by omega) (by omega) (by omega)) (fun k _ _ => hI k (by omega) (by omega) (by omega) (by omega) (by omega) (by omega))
  · refine mG h11 hO (by omega) (Nat.le_refl _) (Nat.le_refl _) (fun k hk => if_neg (by omega)) (fun _ _ => rfl) (fun k hk => ?_) (fun k hk => ?_) (hI0 13 (by omega)) (hI0 14 (by omega)) (hI0 15 (by omega)) (hI0 16 (by omega)) (hI31 38 (by omega)) (hI31 39 (by omega)) (hI31 40 (by omega)) (hI31 41 (by omega)) (hI 50 (by omega) (by omega) (by omega) (by omega) (by omega) (by omega)) (hI 51 (by omega) (by omega) (by omega) (by omega) (by omega) (by omega)) (hI 52 (by omega) (by omega) (by omega) (by omega) (by omega) (by omega))
    · have := hO.2.1 k hk
      rw [hI (os k) (by omega) (by omega) (by omega) (by omega) (by omega) (by omega)]
      exact ⟨rfl, rfl⟩
    · have := hO.1 k hk
      exact hI _ (by omega) (by omega) (by omega) (by omega) (by omega) (by omega)
set_option maxHeartbeats 4000000 in
theorem ck_cargo {n : Nat} {S : rk_Sh} {I : rk_I} {J : rk_J} {R : rk_R} (h : iv n S I R) (a b : Int32) : ∃ v n1 S1 I1 J1 R1 I2, f_X9_cargo n S I J R a b = some (v, n1, S1, I1, J1, R1) ∧ f_X10_cargo I1 a b = some (v, I2) ∧ iv n1 S1 I2 R1 := by
  obtain ⟨c, s, t, r, oc, os, ot, sv, cv, h1, h2, h3, h4, h5, h6, h7, h8, h9, h10, h11⟩ := h
  have hIv : iv n S I R := ⟨c, s, t, r, oc, os, ot, sv, cv, h1, h2, h3, h4, h5, h6, h7, h8, h9, h10, h11⟩
  have x1 := h6.2.1
  have hc := h5.1
  have hs := h5.2.1
  have ht := h8.2.1
  unfold f_X9_cargo f_X10_cargo
  rcases pg_amount a with ⟨w, w1, w2, rfl, w3, w4⟩ | ⟨w3, w4⟩
  · rcases pg_hand b with ⟨d, d1, rfl, d3, d4⟩ | ⟨-, d3, d4⟩
    · have m4 : (4 : Int32).toInt = 4 := by decide
      by_cases hlt : c < 4
      · have q1 : I 0 1 < 4 := by rw [x1, fa_lt, nI_toInt (by omega), m4]; omega
        have q2 : ¬ nI c = 4 := by rw [fa_eq, nI_toInt (by omega), m4]; omega
        obtain ⟨I1, J1, R1, e1, e2, e3, e4, e5, e6, e7, e8, e9⟩ := cg_init (n := n) (S := rk_sh S n 0 5) (I := rk_zi I n) (J := rk_zj J n) (R := rk_zr R n) (k := nI c) (x := nI w) (y := nI d) (by omega) sh_s
        have z0 : rk_zi I n 0 1 = nI c := by rw [zi_o (by omega)]; exact x1
        have l1 : rk_LC (rk_sh S n 0 5) (rk_zr R n) := LC_new h1 (fun k hk => by rw [sh_o (by omega)]) (fun k hk _ _ _ => by rw [zr_o (by omega)])
        have l2 : rk_LC (rk_sh (rk_sh (rk_sh S n 0 5) (n + 1) 20 3) (n + 2) 20 3) R1 := LC_new h1 (fun k hk => by rw [sh_o (by omega), sh_o (by omega), sh_o (by omega)]) (fun k hk _ _ _ => by rw [e7 k (by omega) (by omega) (by omega), zr_o (by omega)])
        have f0 : ∀ q, q < n → I1 q = I q := fun q hq => by rw [e2 q (by omega) (by omega) (by omega), zi_o (by omega)]
        have g0 : ∀ q, q < n → R1 q = R q := fun q hq => by rw [e7 q (by omega) (by omega) (by omega), zr_o (by omega)]
        have t5 : rk_sh (rk_sh (rk_sh S n 0 5) (n + 1) 20 3) (n + 2) 20 3 n = (0, 5) := by rw [sh_o (by omega), sh_o (by omega), sh_s]
        have v1 : I1 0 1 = nI c := by rw [f0 0 (by omega)]; exact x1
        have y1 : I 31 10 = nI c := h7.1
        refine ⟨nI c, n + 3, rk_sh (rk_sh (rk_sh S n 0 5) (n + 1) 20 3) (n + 2) 20 3, rk_ui I1 0 1 (nI (c + 1)), J1, rk_ur R1 1 c (some n), rk_ui (rk_ui (rk_ui (rk_ui (rk_ui (rk_ui (rk_ui I1 0 1 (nI (c + 1))) 35 c (nI w)) 36 c (nI d)) 37 (3 * c + 0) (-1)) 37 (3 * c + 1) (-1)) 37 (3 * c + 2) (-1)) 31 10 (nI (c + 1)), ?_, ?_, ?_⟩
        · rw [w3, pr_sb, if_neg (by decide), d3, pr_sb, if_neg (by decide), if_pos q1, pr_nck (by omega), pr_sb, pr_sb, pr_sb, pr_sb, pr_sb, pr_layC l1, pr_sb, z0, e1, pr_b5, pr_ck sh_s, pr_sb, pr_layC l2, pr_sb, pr_ck t5, pr_sb, x1, pr_wrR hlt (by omega), pr_sb, pr_sb, v1, nI_1, ui_s, nI_pred]
        · have u1 : rk_ui I1 0 1 (nI (c + 1)) 31 10 = nI c := by rw [ui_o (by omega), f0 31 (by omega)]; exact y1
          rw [w4, pr_sb, if_neg (by decide), d4, pr_sb, if_neg (by decide), u1, if_neg q2, pr_wr hlt (by omega), pr_sb]
          have u2 : rk_ui (rk_ui I1 0 1 (nI (c + 1))) 35 c (nI w) 31 10 = nI c := by rw [ui_o (by omega)]; exact u1
          have u3 : rk_ui (rk_ui (rk_ui I1 0 1 (nI (c + 1))) 35 c (nI w)) 36 c (nI d) 31 10 = nI c := by rw [ui_o (by omega)]; exact u2
          have u4 : ∀ x y z : Int32, rk_ui (rk_ui (rk_ui (rk_ui (rk_ui (rk_ui I1 0 1 (nI (c + 1))) 35 c (nI w)) 36 c (nI d)) 37 (3 * c + 0) x) 37 (3 * c + 1) y) 37 (3 * c + 2) z 31 10 = nI c := fun x y z => by rw [ui_o (by omega), ui_o (by omega), ui_o (by omega)]; exact u3
          rw [u2, pr_wr hlt (by omega), pr_sb, cm_loop hlt u3, pr_b2, u4, pr_sb, nI_1, ui_s, nI_pred]
        · refine iv_cargo h1 h2 h3 h4 h5 h6 h7 h8 h9 h10 h11 (w := w) (d := d) hlt ⟨w1, w2⟩ d1 ?_ t5 ?_ ?_ ?_ ?_ ?_ ?_ ?_ ?_ ?_ ?_ ?_ ?_ ?_ ?_ ?_ ?_ ?_ ?_ ?_ ?_ ?_ ?_
          · intro k hk; rw [sh_o (by omega), sh_o (by omega), sh_o (by omega)]
          · rw [sh_o (by omega), sh_s]
          · rw [sh_s]
          · intro k hk a0 a31 a35 a36 a37
            simp (disch := omega) only [ui_o]
            exact f0 k hk
          · intro i hi
            simp (disch := omega) only [ui_o, ui_n]
            rw [f0 0 (by omega)]
          · intro i hi
            simp (disch := omega) only [ui_o, ui_n]
            rw [f0 31 (by omega)]
          · simp (disch := omega) only [ui_o, ui_s]
          · simp (disch := omega) only [ui_s]
          · simp (disch := omega) only [ui_o]; exact e3
          · simp (disch := omega) only [ui_o]; exact e4
          · simp (disch := omega) only [ui_o]; exact e5
          · intro j hj
            simp (disch := omega) only [ui_o]; exact e6 j hj
          · intro i hi
            simp (disch := omega) only [ui_o, ui_n]
            rw [f0 35 (by omega)]
          · simp (disch := omega) only [ui_o, ui_s]
          · intro i hi
            simp (disch := omega) only [ui_o, ui_n]
            rw [f0 36 (by omega)]
          · simp (disch := omega) only [ui_o, ui_s]
          · intro i hi
            simp (disch := omega) only [ui_o, ui_n]
            rw [f0 37 (by omega)]
          · intro j hj
            rcases (by omega : j = 0 ∨ j = 1 ∨ j = 2) with rfl | rfl | rfl
            · simp (disch := omega) only [ui_o, ui_s, ui_n]
            · simp (disch := omega) only [ui_o, ui_s, ui_n]
            · simp (disch := omega) only [ui_o, ui_s, ui_n]
          · intro k hk hk1
            rw [ur_o hk1, g0 k hk]
          · intro i hi
            rw [ur_n hi, g0 1 (by omega)]
          · rw [ur_s]
          · rw [ur_o (by omega)]; exact e8
          · rw [ur_o (by omega)]; exact e9
      · have q1 : ¬ I 0 1 < 4 := by rw [x1, fa_lt, nI_toInt (by omega), m4]; omega
        have q2 : I 31 10 = 4 := by rw [h7.1, fa_eq, nI_toInt (by omega), m4]; omega
        refine ⟨-4, n, S, I, J, R, I, ?_, ?_, hIv⟩
        · rw [w3, pr_sb, if_neg (by decide), d3, pr_sb, if_neg (by decide), if_neg q1]
        · rw [w4, pr_sb, if_neg (by decide), d4, pr_sb, if_neg (by decide), if_pos q2]
    · refine ⟨-2, n, S, I, J, R, I, ?_, ?_, hIv⟩
      · rw [w3, pr_sb, if_neg (by decide), d3]; rfl
      · rw [w4, pr_sb, if_neg (by decide), d4]; rfl
  · refine ⟨-2, n, S, I, J, R, I, ?_, ?_, hIv⟩
    · rw [w3]; rfl
    · rw [w4]; rfl
