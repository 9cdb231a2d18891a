theorem pr_md {a d : Nat} (ha : a < 2147483648) (h0 : 0 < d) (hd : d < 2147483648) : rk_md (nI a) (nI d) = nI (a % d) := pk_rem (by omega) h0 (by omega)
theorem pr_dv {a d : Nat} (ha : a < 2147483648) (h0 : 0 < d) (hd : d < 2147483648) : nI a / nI d = nI (a / d) := pk_div (by omega) h0 (by omega)
theorem pr_neg {x : Int32} (h : ¬ 0 ≤ x) : x < 0 := by
  rw [fa_le, pr_z] at h
  rw [fa_lt, pr_z]
  omega
/-- a sale more -/
theorem iv_salenew {n c s t r : Nat} {oc os ot : Nat → Nat} {sv cv : pv_V} {S S' : rk_Sh} {I I' : rk_I} {R R' : rk_R} (h1 : rk_LC S R) (h2 : rk_LM S R) (h3 : 57 ≤ n) (h4 : n ≤ 57 + 3 * c + s + 3 * t) (h5 : pv_B c s sv cv) (h6 : pv_X n c s oc os sv cv S I R) (h7 : pv_Y c s sv cv I) (h8 : pv_T n t r ot S I R) (h9 : pv_F I) (h10 : pv_H I) (h11 : pv_G c s t oc os I) {vk vc vs vb va vp vh : Nat} (hs : s < 24) (hvk : vk < 6) (hcg : vc < c) (hsl : vs < 10) (hby : vb < 10) (hne : vs ≠ vb) (ham : 1 ≤ va ∧ va < 1000) (hpr : vp < 1000) (hhr : vh < 1000)
    (hS : ∀ k, k < n → S' k = S k) (hS1 : S' n = (5, 11))
    (hI : ∀ k, k < n → k ≠ 0 → k ≠ 31 → (k < 38 ∨ 47 ≤ k) → I' k = I k) (hI0 : ∀ i, i ≠ 3 → I' 0 i = I 0 i) (hI31 : ∀ i, i ≠ 20 → I' 31 i = I 31 i) (c1 : I' 0 3 = nI (s + 1)) (c2 : I' 31 20 = nI (s + 1))
    (n0 : I' n 0 = nI vk) (n2 : I' n 2 = nI vs) (n3 : I' n 3 = nI vb) (n4 : I' n 4 = nI va) (n5 : I' n 5 = nI vp) (n6 : I' n 6 = nI vh) (n7 : I' n 7 = -1) (n8 : I' n 8 = 0)
    (mo : ∀ k i, 38 ≤ k → k < 47 → i ≠ s → I' k i = I k i)
    (m0 : I' 38 s = nI vk) (m1 : I' 39 s = nI vc) (m2 : I' 40 s = nI vs) (m3 : I' 41 s = nI vb) (m4 : I' 42 s = nI va) (m5 : I' 43 s = nI vp) (m6 : I' 44 s = nI vh) (m7 : I' 45 s = -1) (m8 : I' 46 s = 0)
    (hR : ∀ k, k < n → k ≠ 2 → R' k = R k) (hR1 : ∀ i, i ≠ s → R' 2 i = R 2 i) (hR2 : R' 2 s = some n) (hR3 : R' n 1 = some (oc vc)) : iv (n + 1) S' I' R' := by
  obtain ⟨hO, x1, x2, x3, x4⟩ := h6
  have ho : ∀ k, k < s → os k < n ∧ 57 ≤ os k := fun k hk => by have := hO.2.1 k hk; omega
  refine ⟨c, s + 1, t, r, oc, fun k => if k = s then n else os k, ot, fun k i => if k = s then (if i = 0 then vk else if i = 1 then vc else if i = 2 then vs else if i = 3 then vb else if i = 4 then va else if i = 5 then vp else if i = 6 then vh else 0) else sv k i, cv, LC_new h1 (fun k hk => hS k (by omega)) (fun k hk _ a _ => hR k (by omega) a), LM_new h2 (fun k _ hk => hS k (by omega)) (fun k a hk => hR k (by omega) (by omega)), by omega, by omega, ⟨h5.1, by omega, fun k hk => ?_, h5.2.2.2⟩, ⟨⟨fun k hk => ?_, fun k hk => ?_, hO.2.2.1, fun i j hi hj hij => ?_⟩, ?_, c1, fun k hk => ?_, fun k hk => ?_⟩, ⟨?_, c2, fun k hk => ?_, fun k hk => ?_⟩, ?_, ?_, ?_, ?_⟩
  · by_cases hkc : k = s
    · subst hkc
      simp only [if_true, show (1 : Nat) ≠ 0 by decide, show (2 : Nat) ≠ 0 by decide, show (3 : Nat) ≠ 0 by decide, show (4 : Nat) ≠ 0 by decide, show (5 : Nat) ≠ 0 by decide, show (6 : Nat) ≠ 0 by decide, show (7 : Nat) ≠ 0 by decide, show (8 : Nat) ≠ 0 by decide, show (2 : Nat) ≠ 1 by decide, show (3 : Nat) ≠ 1 by decide, show (4 : Nat) ≠ 1 by decide, show (5 : Nat) ≠ 1 by decide, show (6 : Nat) ≠ 1 by decide, show (7 : Nat) ≠ 1 by decide, show (8 : Nat) ≠ 1 by decide, show (3 : Nat) ≠ 2 by decide, show (4 : Nat) ≠ 2 by decide, show (5 : Nat) ≠ 2 by decide, show (6 : Nat) ≠ 2 by decide, show (7 : Nat) ≠ 2 by decide, show (8 : Nat) ≠ 2 by decide, show (4 : Nat) ≠ 3 by decide, show (5 : Nat) ≠ 3 by decide, show (6 : Nat) ≠ 3 by decide, show (7 : Nat) ≠ 3 by decide, show (8 : Nat) ≠ 3 by decide, show (5 : Nat) ≠ 4 by decide, show (6 : Nat) ≠ 4 by decide, show (7 : Nat) ≠ 4 by decide, show (8 : Nat) ≠ 4 by decide, show (6 : Nat) ≠ 5 by decide, show (7 : Nat) ≠ 5 by decide, show (8 : Nat) ≠ 5 by decide, show (7 : Nat) ≠ 6 by decide, show (8 : Nat) ≠ 6 by decide, if_false]
      exact ⟨hvk, hcg, hsl, hby, hne, ham.1, ham.2, hpr, hhr, by omega, by omega⟩
    · simp only [hkc, if_false]; exact h5.2.2.1 k (by omega)
  · have := hO.1 k hk; omega
  · by_cases hkc : k = s
    · simp only [hkc, if_true]; omega
    · simp only [hkc, if_false]; have := ho k (by omega); omega
  · by_cases hic : i = s <;> by_cases hjc : j = s
    · omega
    · simp only [hic, hjc, if_true, if_false] at hij; have := ho j (by omega); omega
    · simp only [hic, hjc, if_true, if_false] at hij; have := ho i (by omega); omega
    · simp only [hic, hjc, if_false] at hij; exact hO.2.2.2 i j (by omega) (by omega) hij
  · rw [hI0 1 (by omega)]; exact x1
  · by_cases hkc : k = s
    · subst hkc
      simp only [if_true, show (1 : Nat) ≠ 0 by decide, show (2 : Nat) ≠ 0 by decide, show (3 : Nat) ≠ 0 by decide, show (4 : Nat) ≠ 0 by decide, show (5 : Nat) ≠ 0 by decide, show (6 : Nat) ≠ 0 by decide, show (7 : Nat) ≠ 0 by decide, show (8 : Nat) ≠ 0 by decide, show (2 : Nat) ≠ 1 by decide, show (3 : Nat) ≠ 1 by decide, show (4 : Nat) ≠ 1 by decide, show (5 : Nat) ≠ 1 by decide, show (6 : Nat) ≠ 1 by decide, show (7 : Nat) ≠ 1 by decide, show (8 : Nat) ≠ 1 by decide, show (3 : Nat) ≠ 2 by decide, show (4 : Nat) ≠ 2 by decide, show (5 : Nat) ≠ 2 by decide, show (6 : Nat) ≠ 2 by decide, show (7 : Nat) ≠ 2 by decide, show (8 : Nat) ≠ 2 by decide, show (4 : Nat) ≠ 3 by decide, show (5 : Nat) ≠ 3 by decide, show (6 : Nat) ≠ 3 by decide, show (7 : Nat) ≠ 3 by decide, show (8 : Nat) ≠ 3 by decide, show (5 : Nat) ≠ 4 by decide, show (6 : Nat) ≠ 4 by decide, show (7 : Nat) ≠ 4 by decide, show (8 : Nat) ≠ 4 by decide, show (6 : Nat) ≠ 5 by decide, show (7 : Nat) ≠ 5 by decide, show (8 : Nat) ≠ 5 by decide, show (7 : Nat) ≠ 6 by decide, show (8 : Nat) ≠ 6 by decide, if_false]
      exact ⟨hR2, hS1, hR3, n0, n2, n3, n4, n5, n6, n7.trans pr_m1, n8⟩
    · have a := ho k (by omega)
      simp only [hkc, if_false]
      rw [hI (os k) (by omega) (by omega) (by omega) (by omega), hS (os k) (by omega), hR (os k) (by omega) (by omega), hR1 k hkc]
      exact x3 k (by omega)
  · have a := hO.1 k hk
    rw [hI (oc k) (by omega) (by omega) (by omega) (by omega), hI (oc k + 1) (by omega) (by omega) (by omega) (by omega), hS (oc k) (by omega), hS (oc k + 1) (by omega), hS (oc k + 2) (by omega), hR (oc k) (by omega) (by omega), hR 1 (by omega) (by omega)]
    exact x4 k hk
  · rw [hI31 10 (by omega)]; exact h7.1
  · by_cases hkc : k = s
    · subst hkc
      simp only [if_true, show (1 : Nat) ≠ 0 by decide, show (2 : Nat) ≠ 0 by decide, show (3 : Nat) ≠ 0 by decide, show (4 : Nat) ≠ 0 by decide, show (5 : Nat) ≠ 0 by decide, show (6 : Nat) ≠ 0 by decide, show (7 : Nat) ≠ 0 by decide, show (8 : Nat) ≠ 0 by decide, show (2 : Nat) ≠ 1 by decide, show (3 : Nat) ≠ 1 by decide, show (4 : Nat) ≠ 1 by decide, show (5 : Nat) ≠ 1 by decide, show (6 : Nat) ≠ 1 by decide, show (7 : Nat) ≠ 1 by decide, show (8 : Nat) ≠ 1 by decide, show (3 : Nat) ≠ 2 by decide, show (4 : Nat) ≠ 2 by decide, show (5 : Nat) ≠ 2 by decide, show (6 : Nat) ≠ 2 by decide, show (7 : Nat) ≠ 2 by decide, show (8 : Nat) ≠ 2 by decide, show (4 : Nat) ≠ 3 by decide, show (5 : Nat) ≠ 3 by decide, show (6 : Nat) ≠ 3 by decide, show (7 : Nat) ≠ 3 by decide, show (8 : Nat) ≠ 3 by decide, show (5 : Nat) ≠ 4 by decide, show (6 : Nat) ≠ 4 by decide, show (7 : Nat) ≠ 4 by decide, show (8 : Nat) ≠ 4 by decide, show (6 : Nat) ≠ 5 by decide, show (7 : Nat) ≠ 5 by decide, show (8 : Nat) ≠ 5 by decide, show (7 : Nat) ≠ 6 by decide, show (8 : Nat) ≠ 6 by decide, if_false]
      exact ⟨m0, m1, m2, m3, m4, m5, m6, m7.trans pr_m1, m8⟩
    · simp only [hkc, if_false]
      rw [mo 38 k (by omega) (by omega) hkc, mo 39 k (by omega) (by omega) hkc, mo 40 k (by omega) (by omega) hkc, mo 41 k (by omega) (by omega) hkc, mo 42 k (by omega) (by omega) hkc, mo 43 k (by omega) (by omega) hkc, mo 44 k (by omega) (by omega) hkc, mo 45 k (by omega) (by omega) hkc, mo 46 k (by omega) (by omega) hkc]
      exact h7.2.2.1 k (by omega)
  · rw [hI 35 (by omega) (by omega) (by omega) (by omega), hI 36 (by omega) (by omega) (by omega) (by omega), hI 37 (by omega) (by omega) (by omega) (by omega)]
    exact h7.2.2.2 k hk
  · have hot := fun q hq => (h8.2.2.2.2.2.2.2 q hq).2.1
    refine mT h8 (by omega) h3 (hI0 5 (by omega)) (hI0 6 (by omega)) (hI31 3 (by omega)) (hI31 4 (by omega)) (hI 32 (by omega) (by omega) (by omega) (by omega)) (hI 33 (by omega) (by omega) (by omega) (by omega)) (fun q hq => ?_) (fun q hq => ?_) (fun q hq => ?_) (hR 3 (by omega) (by omega))
    · have := hot q hq
      exact ⟨hS _ (by omega), hS _ (by omega), hS _ (by omega)⟩
    · have := hot q hq
      exact ⟨hI _ (by omega) (by omega) (by omega) (by omega), hI _ (by omega) (by omega) (by omega) (by omega)⟩
    · have := hot q hq
      exact hR _ (by omega) (by omega)
  · exact mF h9 (by rw [hI 4 (by omega) (by omega) (by omega) (by omega)]) (hI31 6 (by omega)) (hI 5 (by omega) (by omega) (by omega) (by omega)) (hI 34 (by omega) (by omega) (by omega) (by omega))
  · exact mH h10 (fun k _ _ => hI k (by omega) (by omega) (by omega) (by omega)) (fun k _ _ => hI k (by omega) (by omega) (by omega) (by omega))
  · refine mG h11 hO (Nat.le_refl _) (by omega) (Nat.le_refl _) (fun _ _ => rfl) (fun k hk => if_neg (by omega)) (fun k hk => ?_) (fun k hk => ?_) (hI0 13 (by omega)) (hI0 14 (by omega)) (hI0 15 (by omega)) (hI0 16 (by omega)) (hI31 38 (by omega)) (hI31 39 (by omega)) (hI31 40 (by omega)) (hI31 41 (by omega)) (hI 50 (by omega) (by omega) (by omega) (by omega)) (hI 51 (by omega) (by omega) (by omega) (by omega)) (hI 52 (by omega) (by omega) (by omega) (by omega))
    · have := hO.2.1 k hk
      rw [hI (os k) (by omega) (by omega) (by omega) (by omega)]
      exact ⟨rfl, rfl⟩
    · have := hO.1 k hk
      exact hI _ (by omega) (by omega) (by omega) (by omega)
/-- the price's guard in the class's order -/
theorem pg_price (a : Int32) : (∃ j, j < 1000 ∧ a = nI j ∧ f_X10_in a.toInt64 0 999 = some 1 ∧ ¬ a < 0 ∧ ¬ 999 < a) ∨ (f_X10_in a.toInt64 0 999 = some 0 ∧ (a < 0 ∨ 999 < a)) := by
  rcases pr_inN (x := a) (h := 999) (n := 1000) (by omega) (by decide) with ⟨j, h1, rfl, h3⟩ | ⟨h1, h3⟩
  · refine Or.inl ⟨j, h1, rfl, h3, nI_pos (by omega), ?_⟩
    have m : (999 : Int32).toInt = 999 := by decide
    rw [fa_lt, m, nI_toInt (by omega)]
    omega
  · refine Or.inr ⟨h3, ?_⟩
    have m : (999 : Int32).toInt = 999 := by decide
    rw [fa_lt, fa_lt, m, pr_z]
    omega
theorem cs_init {I : rk_I} {R : rk_R} {n o : Nat} {x0 x2 x3 x4 x5 x6 : Int32} : ∃ I1 R1, f_X5_init (rk_zi I n) (rk_zr R n) n x0 o x2 x3 x4 x5 x6 = some (I1, R1) ∧ (∀ q, q ≠ n → I1 q = I q) ∧ I1 n 0 = x0 ∧ I1 n 2 = x2 ∧ I1 n 3 = x3 ∧ I1 n 4 = x4 ∧ I1 n 5 = x5 ∧ I1 n 6 = x6 ∧ I1 n 7 = -1 ∧ I1 n 8 = 0 ∧ (∀ q, q ≠ n → R1 q = R q) ∧ R1 n 1 = some o := by
  refine ⟨_, _, rfl, fun q hq => ?_, ?_, ?_, ?_, ?_, ?_, ?_, ?_, ?_, fun q hq => ?_, ?_⟩
  · simp (disch := omega) only [ui_o, zi_o]
  · simp (disch := omega) only [ui_s, ui_n]
  · simp (disch := omega) only [ui_s, ui_n]
  · simp (disch := omega) only [ui_s, ui_n]
  · simp (disch := omega) only [ui_s, ui_n]
  · simp (disch := omega) only [ui_s, ui_n]
  · simp (disch := omega) only [ui_s, ui_n]
  · simp (disch := omega) only [ui_s, ui_n]
  · simp (disch := omega) only [ui_s, ui_n, zi_s]
  · simp (disch := omega) only [ur_o, zr_o]
  · simp (disch := omega) only [ur_s, ur_n]
set_option maxHeartbeats 4000000 in
theorem ck_sale {n : Nat} {S : rk_Sh} {I : rk_I} {J : rk_J} {R : rk_R} (h : iv n S I R) (a b d e f : Int32) : ∃ v n1 S1 I1 J1 R1 I2, f_X9_sale n S I J R a b d e f = some (v, n1, S1, I1, J1, R1) ∧ f_X10_sale I1 a b d e f = some (v, I2) ∧ iv n1 S1 I2 R1 := by
  obtain ⟨c, s, t, r, oc, os, ot, sv, cv, h1, h2, h3, h4, h5, h6, h7, h8, h9, h10, h11⟩ := h
  have hIv : iv n S I R := ⟨c, s, t, r, oc, os, ot, sv, cv, h1, h2, h3, h4, h5, h6, h7, h8, h9, h10, h11⟩
  have x1 := h6.2.1
  have x2 := h6.2.2.1
  have x4 := h6.2.2.2.2
  have hc := h5.1
  have hs := h5.2.1
  have ht := h8.2.1
  have bad : ∀ (P1 : f_X9_sale n S I J R a b d e f = some (-2, n, S, I, J, R)) (P2 : f_X10_sale I a b d e f = some (-2, I)), ∃ v n1 S1 I1 J1 R1 I2, f_X9_sale n S I J R a b d e f = some (v, n1, S1, I1, J1, R1) ∧ f_X10_sale I1 a b d e f = some (v, I2) ∧ iv n1 S1 I2 R1 := fun P1 P2 => ⟨-2, n, S, I, J, R, I, P1, P2, hIv⟩
  by_cases hb : 0 ≤ b
  · obtain ⟨w, w1, rfl⟩ := nI_of (x := b) (by rw [fa_lt, pr_z]; rw [fa_le, pr_z] at hb; omega)
    have w1 : w < 2147483648 := by omega
    have d100 : nI w / 100 = nI (w / 100) := pr_dv (d := 100) w1 (by omega) (by omega)
    have d10 : nI w / 10 = nI (w / 10) := pr_dv (d := 10) w1 (by omega) (by omega)
    have md1 : rk_md (nI (w / 10)) 10 = nI (w / 10 % 10) := pr_md (d := 10) (by omega) (by omega) (by omega)
    have md2 : rk_md (nI w) 10 = nI (w % 10) := pr_md (d := 10) w1 (by omega) (by omega)
    have hbn : ¬ nI w < 0 := nI_pos (by omega)
    rcases pg_kind a with ⟨vk, k1, rfl, k3, k4⟩ | ⟨-, k3, k4⟩
    · rcases pg_cargo (I' := I) hc x1 (fun k hk => (x4 k hk).1) h7.1 (nI (w / 100)) with ⟨vc, g1, g2, g3, g4⟩ | ⟨g3, g4⟩
      · by_cases heq : w / 10 % 10 = w % 10
        · refine bad ?_ ?_
          · unfold f_X9_sale
            rw [d100, d10, md1, md2, if_pos hb, g3, pr_sb, k3, pr_sb, if_neg (by decide), pr_oc1]
            rcases pg_amount d with ⟨va, a1, a2, rfl, a3, a4⟩ | ⟨a3, a4⟩
            · rw [a3, pr_sb, if_neg (by decide)]
              rcases pg_price e with ⟨vp, p1, rfl, p3, p4, p5⟩ | ⟨p3, p4 | p4⟩
              · rw [if_neg p4, if_neg p5]
                rcases pg_hour f with ⟨vh, q1, rfl, q3, q4⟩ | ⟨-, q3, q4⟩
                · rw [q3, pr_sb, if_neg (by decide), if_pos (by rw [heq])]
                · rw [q3]; rfl
              · rw [if_pos p4]
              · rw [if_pos p4]
                by_cases hh : e < 0
                · rw [if_pos hh]
                · rw [if_neg hh]
            · rw [a3]; rfl
          · unfold f_X10_sale
            rw [d100, d10, md1, md2, k4, pr_sb, if_neg (by decide), if_neg hbn, g4, pr_sb, if_neg (by decide), if_pos (by rw [heq])]
        · have hne2 : ¬ nI (w / 10 % 10) = nI (w % 10) := fun z => heq ((nI_eq (by omega) (by omega)).mp z)
          rcases pg_amount d with ⟨va, a1, a2, rfl, a3, a4⟩ | ⟨a3, a4⟩
          · rcases pg_price e with ⟨vp, p1, rfl, p3, p4, p5⟩ | ⟨p3, p4⟩
            · rcases pg_hour f with ⟨vh, q1, rfl, q3, q4⟩ | ⟨-, q3, q4⟩
              · have m24 : (24 : Int32).toInt = 24 := by decide
                by_cases hlt : s < 24
                · have r1 : I 0 3 < 24 := by rw [x2, fa_lt, nI_toInt (by omega), m24]; omega
                  have r2 : ¬ nI s = 24 := by rw [fa_eq, nI_toInt (by omega), m24]; omega
                  have g2' : w / 100 = vc := (nI_eq (by omega) (by omega)).mp g2
                  have t0 : rk_sh S n 5 11 (oc vc) = (0, 5) := by
                    have := h6.1.1 vc g1
                    rw [sh_o (by omega)]; exact (x4 vc g1).2.1
                  obtain ⟨I1, R1, e0, e1, e2, e3, e4, e5, e6, e7, e8, e9, e10, e11⟩ := cs_init (I := I) (R := R) (n := n) (o := oc vc) (x0 := nI vk) (x2 := nI (w / 10 % 10)) (x3 := nI (w % 10)) (x4 := nI va) (x5 := nI vp) (x6 := nI vh)
                  have l1 : rk_LC (rk_sh S n 5 11) R1 := LC_new h1 (fun k hk => by rw [sh_o (by omega)]) (fun k hk _ _ _ => e10 k (by omega))
                  have z3 : I1 0 3 = nI s := by rw [e1 0 (by omega)]; exact x2
                  have hy : ∀ i, rk_ui I1 0 3 (nI (s + 1)) 31 i = I 31 i := fun i => by rw [ui_o (by omega), e1 31 (by omega)]
                  have hy20 : rk_ui I1 0 3 (nI (s + 1)) 31 20 = nI s := (hy 20).trans h7.2.1
                  have g4' : f_X10_isCargo (rk_ui I1 0 3 (nI (s + 1))) (nI (w / 100)) = some 1 := by
                    rw [← g4]
                    unfold f_X10_isCargo
                    rw [hy]
                  let I3 := rk_ui I1 0 3 (nI (s + 1))
                  have hI3 : I3 = rk_ui I1 0 3 (nI (s + 1)) := rfl
                  refine ⟨nI s, n + 1, rk_sh S n 5 11, I3, rk_zj J n, rk_ur R1 2 s (some n), rk_ui (rk_ui (rk_ui (rk_ui (rk_ui (rk_ui (rk_ui (rk_ui (rk_ui (rk_ui I3 38 s (nI vk)) 39 s (nI vc)) 40 s (nI (w / 10 % 10))) 41 s (nI (w % 10))) 42 s (nI va)) 43 s (nI vp)) 44 s (nI vh)) 45 s (-1)) 46 s 0) 31 20 (nI (s + 1)), ?_, ?_, ?_⟩
                  · unfold f_X9_sale
                    rw [d100, d10, md1, md2, if_pos hb, g3, pr_sb, k3, pr_sb, if_neg (by decide), pr_oc1, a3, pr_sb, if_neg (by decide), if_neg p4, if_neg p5, q3, pr_sb, if_neg (by decide), if_neg hne2, if_pos r1, pr_nck (by omega), pr_sb, pr_sb, pr_sb, pr_sb, pr_sb, e0, pr_b2, pr_ck sh_s, pr_sb, pr_ck t0, pr_sb, pr_layC l1, pr_sb, x2, pr_wrR hlt (by omega), pr_sb, pr_sb, z3, nI_1, ui_s, nI_pred]
                  · unfold f_X10_sale
                    rw [d100, d10, md1, md2, k4, pr_sb, if_neg (by decide), if_neg hbn, hI3, g4', pr_sb, if_neg (by decide), if_neg hne2, a4, pr_sb, if_neg (by decide), p3, pr_sb, if_neg (by decide), q4, pr_sb, if_neg (by decide), hy20, if_neg r2, pr_wr hlt (by omega), pr_sb]
                    have u : ∀ (I' : rk_I) (k : Nat) (x : Int32), I' 31 20 = nI s → k ≠ 31 → rk_ui I' k s x 31 20 = nI s := fun I' k x a b => by rw [ui_o (Ne.symm b)]; exact a
                    rw [u _ _ _ hy20 (by omega), pr_wr hlt (by omega), pr_sb, g2']
                    rw [u _ _ _ (u _ _ _ hy20 (by omega)) (by omega), pr_wr hlt (by omega), pr_sb]
                    rw [u _ _ _ (u _ _ _ (u _ _ _ hy20 (by omega)) (by omega)) (by omega), pr_wr hlt (by omega), pr_sb]
                    rw [u _ _ _ (u _ _ _ (u _ _ _ (u _ _ _ hy20 (by omega)) (by omega)) (by omega)) (by omega), pr_wr hlt (by omega), pr_sb]
                    have u5 := u _ 42 (nI va) (u _ 41 (nI (w % 10)) (u _ 40 (nI (w / 10 % 10)) (u _ 39 (nI vc) (u _ 38 (nI vk) hy20 (by omega)) (by omega)) (by omega)) (by omega)) (by omega)
                    rw [u5, pr_wr hlt (by omega), pr_sb]
                    have u6 := u _ 43 (nI vp) u5 (by omega)
                    rw [u6, pr_wr hlt (by omega), pr_sb]
                    have u7 := u _ 44 (nI vh) u6 (by omega)
                    rw [u7, pr_wr hlt (by omega), pr_sb]
                    have u8 := u _ 45 (-1) u7 (by omega)
                    rw [u8, pr_wr hlt (by omega), pr_sb]
                    have u9 := u _ 46 0 u8 (by omega)
                    rw [u9, pr_sb, nI_1, ui_s, nI_pred]
                  · refine iv_salenew h1 h2 h3 h4 h5 h6 h7 h8 h9 h10 h11 hlt k1 g1 (by omega : w / 10 % 10 < 10) (by omega : w % 10 < 10) heq ⟨a1, a2⟩ p1 q1 ?_ sh_s ?_ ?_ ?_ ?_ ?_ ?_ ?_ ?_ ?_ ?_ ?_ ?_ ?_ ?_ ?_ ?_ ?_ ?_ ?_ ?_ ?_ ?_ ?_ ?_ ?_ ?_ ?_
                    · intro k hk; rw [sh_o (by omega)]
                    · intro k hk a0 a31 a38
                      simp (disch := omega) only [ui_o, I3]
                      exact e1 k (by omega)
                    · intro i hi
                      simp (disch := omega) only [ui_o, ui_n, I3]
                      rw [e1 0 (by omega)]
                    · intro i hi
                      simp (disch := omega) only [ui_o, ui_n, I3]
                      rw [e1 31 (by omega)]
                    · simp (disch := omega) only [ui_o, ui_s, I3]
                    · simp (disch := omega) only [ui_s]
                    · simp (disch := omega) only [ui_o, I3]; exact e2
                    · simp (disch := omega) only [ui_o, I3]; exact e3
                    · simp (disch := omega) only [ui_o, I3]; exact e4
                    · simp (disch := omega) only [ui_o, I3]; exact e5
                    · simp (disch := omega) only [ui_o, I3]; exact e6
                    · simp (disch := omega) only [ui_o, I3]; exact e7
                    · simp (disch := omega) only [ui_o, I3]; exact e8
                    · simp (disch := omega) only [ui_o, I3]; exact e9
                    · intro k i hk hk2 hi
                      rcases (by omega : k = 38 ∨ k = 39 ∨ k = 40 ∨ k = 41 ∨ k = 42 ∨ k = 43 ∨ k = 44 ∨ k = 45 ∨ k = 46) with rfl | rfl | rfl | rfl | rfl | rfl | rfl | rfl | rfl
                      all_goals
                        simp (disch := omega) only [ui_o, ui_n, I3]
                        rw [e1 _ (by omega)]
                    · simp (disch := omega) only [ui_o, ui_s]
                    · simp (disch := omega) only [ui_o, ui_s]
                    · simp (disch := omega) only [ui_o, ui_s]
                    · simp (disch := omega) only [ui_o, ui_s]
                    · simp (disch := omega) only [ui_o, ui_s]
                    · simp (disch := omega) only [ui_o, ui_s]
                    · simp (disch := omega) only [ui_o, ui_s]
                    · simp (disch := omega) only [ui_o, ui_s]
                    · simp (disch := omega) only [ui_o, ui_s]
                    · intro k hk hk1
                      rw [ur_o hk1, e10 k (by omega)]
                    · intro i hi
                      rw [ur_n hi, e10 2 (by omega)]
                    · rw [ur_s]
                    · rw [ur_o (by omega)]; exact e11
                · have r1 : ¬ I 0 3 < 24 := by rw [x2, fa_lt, nI_toInt (by omega), m24]; omega
                  have r2 : I 31 20 = 24 := by rw [h7.2.1, fa_eq, nI_toInt (by omega), m24]; omega
                  refine ⟨-4, n, S, I, J, R, I, ?_, ?_, hIv⟩
                  · unfold f_X9_sale
                    rw [d100, d10, md1, md2, if_pos hb, g3, pr_sb, k3, pr_sb, if_neg (by decide), pr_oc1, a3, pr_sb, if_neg (by decide), if_neg p4, if_neg p5, q3, pr_sb, if_neg (by decide), if_neg hne2, if_neg r1]
                  · unfold f_X10_sale
                    rw [d100, d10, md1, md2, k4, pr_sb, if_neg (by decide), if_neg hbn, g4, pr_sb, if_neg (by decide), if_neg hne2, a4, pr_sb, if_neg (by decide), p3, pr_sb, if_neg (by decide), q4, pr_sb, if_neg (by decide), if_pos r2]
              · refine bad ?_ ?_
                · unfold f_X9_sale
                  rw [d100, d10, md1, md2, if_pos hb, g3, pr_sb, k3, pr_sb, if_neg (by decide), pr_oc1, a3, pr_sb, if_neg (by decide), if_neg p4, if_neg p5, q3]; rfl
                · unfold f_X10_sale
                  rw [d100, d10, md1, md2, k4, pr_sb, if_neg (by decide), if_neg hbn, g4, pr_sb, if_neg (by decide), if_neg hne2, a4, pr_sb, if_neg (by decide), p3, pr_sb, if_neg (by decide), q4]; rfl
            · refine bad ?_ ?_
              · unfold f_X9_sale
                rw [d100, d10, md1, md2, if_pos hb, g3, pr_sb, k3, pr_sb, if_neg (by decide), pr_oc1, a3, pr_sb, if_neg (by decide)]
                by_cases hh : e < 0
                · rw [if_pos hh]
                · rw [if_neg hh, if_pos (by rcases p4 with p | p; exact absurd p hh; exact p)]
              · unfold f_X10_sale
                rw [d100, d10, md1, md2, k4, pr_sb, if_neg (by decide), if_neg hbn, g4, pr_sb, if_neg (by decide), if_neg hne2, a4, pr_sb, if_neg (by decide), p3]; rfl
          · refine bad ?_ ?_
            · unfold f_X9_sale
              rw [d100, d10, md1, md2, if_pos hb, g3, pr_sb, k3, pr_sb, if_neg (by decide), pr_oc1, a3]; rfl
            · unfold f_X10_sale
              rw [d100, d10, md1, md2, k4, pr_sb, if_neg (by decide), if_neg hbn, g4, pr_sb, if_neg (by decide), if_neg hne2, a4]; rfl
      · refine bad ?_ ?_
        · unfold f_X9_sale
          rw [d100, d10, md1, md2, if_pos hb, g3, pr_sb, k3, pr_sb, if_neg (by decide)]; rfl
        · unfold f_X10_sale
          rw [d100, d10, md1, md2, k4, pr_sb, if_neg (by decide), if_neg hbn, g4]; rfl
    · refine bad ?_ ?_
      · unfold f_X9_sale
        rw [if_pos hb, d100]
        rcases pg_cargo (I' := I) hc x1 (fun k hk => (x4 k hk).1) h7.1 (nI (w / 100)) with ⟨vc, g1, g2, g3, g4⟩ | ⟨g3, g4⟩
        · rw [g3, pr_sb, k3]; rfl
        · rw [g3, pr_sb, k3]; rfl
      · unfold f_X10_sale
        rw [k4]; rfl
  · refine bad ?_ ?_
    · unfold f_X9_sale
      rw [if_neg hb]
      rcases pg_kind a with ⟨vk, k1, rfl, k3, k4⟩ | ⟨-, k3, k4⟩
      · rw [k3]; rfl
      · rw [k3]; rfl
    · unfold f_X10_sale
      rcases pg_kind a with ⟨vk, k1, rfl, k3, k4⟩ | ⟨-, k3, k4⟩
      · rw [k4, pr_sb, if_neg (by decide), if_pos (pr_neg hb)]
      · rw [k4]; rfl
