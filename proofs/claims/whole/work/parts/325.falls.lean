/-! falls -/
theorem gc_half {j g l : Nat} (hl : 0 < l) (h : l < 2 ^ (j + 1)) (hr : 0 < g % l) : l % (g % l) < 2 ^ j := by
  have h1 : g % l < l := Nat.mod_lt _ hl
  have h2 : l % (g % l) < g % l := Nat.mod_lt _ hr
  rw [Nat.pow_succ] at h
  rcases Nat.lt_or_ge (2 ^ j) (g % l) with h3 | h3
  · have h4 : g % l + l % (g % l) ≤ l := by
      have e := Nat.div_add_mod l (g % l)
      have q : 1 ≤ l / (g % l) := by
        rw [Nat.le_div_iff_mul_le hr]
        omega
      have : g % l * 1 ≤ g % l * (l / (g % l)) := Nat.mul_le_mul_left _ q
      omega
    omega
  · omega
theorem gc_g (g l : Nat) : Nat.gcd g l = Nat.gcd l (g % l) := by
  rw [Nat.gcd_comm g l, Nat.gcd_rec l g, Nat.gcd_comm]
theorem gc_st {g l k : Nat} (hg : g < 2147483648) (hl : l < 2147483648) (h0 : 0 < l) (hk : k < 64) : f_X9_commonDivisor_l7 (nI g) (nI l) (nI k) = some (.inl (nI l, nI (g % l), nI (k + 1))) := by
  unfold f_X9_commonDivisor_l7
  rw [if_neg (show ¬ (64 : Int32) ≤ nI k from nI_ge (b := 64) hk (by omega)), if_neg (nI_ne0 h0 (by omega))]
  unfold rk_rem
  rw [if_neg (nI_ne0 h0 (by omega)), pk_rem (by omega) h0 (by omega), pr_sb, nI_1]
theorem gc_end {g k : Nat} : f_X9_commonDivisor_l7 (nI g) (nI 0) (nI k) = some (.inr (nI g, nI 0, nI k)) := by
  unfold f_X9_commonDivisor_l7
  rw [if_pos (show nI 0 = 0 from rfl)]
  split <;> rfl
theorem gc_c : ∀ (j g l k : Nat), g < 2147483648 → l < 2147483648 → l < 2 ^ j → k + 2 * j + 1 ≤ 64 → ∃ y z, rk_while (fun a9 : Int32 × Int32 × Int32 => f_X9_commonDivisor_l7 a9.1 a9.2.1 a9.2.2) (nI g, nI l, nI k) = some (nI (Nat.gcd g l), y, z) := by
  intro j
  induction j with
  | zero =>
    intro g l k hg hl h hk
    have : l = 0 := by omega
    subst this
    exact ⟨_, _, by rw [Nat.gcd_zero_right]; exact rk_while_out gc_end⟩
  | succ j ih =>
    intro g l k hg hl h hk
    rcases Nat.eq_zero_or_pos l with e | h0
    · subst e
      exact ⟨_, _, by rw [Nat.gcd_zero_right]; exact rk_while_out gc_end⟩
    · have hr : g % l < l := Nat.mod_lt _ h0
      rcases Nat.eq_zero_or_pos (g % l) with e | h1
      · have hh : rk_while (fun a9 : Int32 × Int32 × Int32 => f_X9_commonDivisor_l7 a9.1 a9.2.1 a9.2.2) (nI l, nI (g % l), nI (k + 1)) = some (nI (Nat.gcd g l), nI 0, nI (k + 1)) := by
          rw [gc_g, e, Nat.gcd_zero_right]
          exact rk_while_out gc_end
        exact ⟨_, _, (rk_while_in (gc_st hg hl h0 (by omega))).trans hh⟩
      · obtain ⟨y, z, hh⟩ := ih (g % l) (l % (g % l)) (k + 2) (by omega) (by have := Nat.mod_lt l h1; omega) (gc_half h0 h h1) (by omega)
        refine ⟨y, z, (rk_while_in (gc_st hg hl h0 (by omega))).trans ((rk_while_in (gc_st hl (by omega) h1 (by omega))).trans ?_)⟩
        rw [gc_g g l, gc_g l (g % l)]
        exact hh
theorem gc_C {a b : Nat} (ha : a < 2 ^ 25) (hb : b < 2147483648) (h0 : 0 < b) : f_X9_commonDivisor (nI a) (nI b) = some (nI (Nat.gcd b a)) := by
  unfold f_X9_commonDivisor
  obtain ⟨y, z, e⟩ := gc_c 25 b a 0 hb (by omega) ha (by omega)
  have e : rk_while (fun a9 : Int32 × Int32 × Int32 => f_X9_commonDivisor_l7 a9.1 a9.2.1 a9.2.2) (nI b, nI a, 0) = some (nI (Nat.gcd b a), y, z) := e
  have hp : 0 < Nat.gcd b a := by
    rw [Nat.gcd_comm]
    exact Nat.gcd_pos_of_pos_right a h0
  have hle : Nat.gcd b a ≤ b := Nat.gcd_le_left a h0
  rw [e, pr_b3, show (1 : Int32) = nI 1 from rfl, pr_max _ _ (by omega) (by omega), Nat.max_eq_right hp]
theorem lN_0 {a : Nat} (h : a < 2 ^ 63) : lN a = 0 ↔ a = 0 := by
  rw [show (0 : Int64) = lN 0 from rfl, fb_lN_inj h (by omega)]
theorem lN_div {a b : Nat} (ha : a < 2 ^ 63) (hb : b < 2 ^ 63) : lN a / lN b = lN (a / b) := (Int64.ofNat_div ha hb).symm
theorem gc_m : ∀ (n y x : Nat), y < n → x < 2 ^ 63 → y < 2 ^ 63 → ∃ z, rk_while (fun a9 : Int64 × Int64 => f_X10_common_l6 a9.1 a9.2) (lN x, lN y) = some (lN (Nat.gcd x y), z) := by
  intro n
  induction n with
  | zero => intro y x h; omega
  | succ n ih =>
    intro y x h hx hy
    have hc : ∀ z : Int64, (lg_cmp z 0 = 0) ↔ z = 0 := fun z => by
      unfold lg_cmp
      by_cases h1 : z > 0
      · rw [if_pos h1]
        constructor
        · intro e; exact absurd e (by decide)
        · intro e
          rw [e] at h1
          exact absurd h1 (by decide)
      · rw [if_neg h1]
        by_cases h2 : z = 0
        · rw [if_pos h2]
          exact ⟨fun _ => h2, fun _ => rfl⟩
        · rw [if_neg h2]
          exact ⟨fun e => absurd e (by decide), fun e => absurd e h2⟩
    rcases Nat.eq_zero_or_pos y with e | h0
    · subst e
      refine ⟨lN 0, rk_while_out ?_⟩
      show f_X10_common_l6 (lN x) (lN 0) = _
      unfold f_X10_common_l6
      rw [if_pos ((hc (lN 0)).mpr rfl), Nat.gcd_zero_right]
    · have hne : ¬ lN y = 0 := fun e => by have := (lN_0 hy).mp e; omega
      have hr : x % y < y := Nat.mod_lt _ h0
      obtain ⟨z, hz⟩ := ih (x % y) y (by omega) hy (by omega)
      refine ⟨z, (rk_while_in (a' := (lN y, lN (x % y))) ?_).trans ?_⟩
      · show f_X10_common_l6 (lN x) (lN y) = _
        unfold f_X10_common_l6 rk_lrem
        rw [if_neg (fun e => hne ((hc _).mp e)), if_neg hne, lN_div hx hy, lN_mul, lN_sub (by rw [Nat.mul_comm]; exact Nat.mul_div_le x y), pr_sb]
        congr 4
        have := Nat.div_add_mod x y
        rw [Nat.mul_comm]
        omega
      · rw [gc_g]
        exact hz
theorem gc_M {x y : Nat} (hx : x < 2 ^ 63) (hy : y < 2 ^ 63) : f_X10_common (lN x) (lN y) = some (lN (Nat.gcd x y)) := by
  unfold f_X10_common
  obtain ⟨z, e⟩ := gc_m (y + 1) y x (by omega) hx hy
  rw [e, pr_b2]
theorem ck_falls {n : Nat} {S : rk_Sh} {I : rk_I} {R : rk_R} (h : iv n S I R) (a b d e : Int32) : ∃ v I1 R1 I2, f_X9_falls S I R a b d e = some (v, I1, R1) ∧ f_X10_falls I1 a b d e = some (v, I2) ∧ iv n S I2 R1 := by
  have h' := h
  obtain ⟨c, s, t, r, oc, os, ot, sv, cv, h1, h2, h3, h4, h5, h6, h7, h8, h9, h10, h11⟩ := h
  have bad : f_X9_falls S I R a b d e = some (-4611686018427387904, I, R) → f_X10_falls I a b d e = some (-4611686018427387904, I) → ∃ v I1 R1 I2, f_X9_falls S I R a b d e = some (v, I1, R1) ∧ f_X10_falls I1 a b d e = some (v, I2) ∧ iv n S I2 R1 := fun P Q => ⟨-4611686018427387904, I, R, I, P, Q, h'⟩
  have hc := h5.1
  have hs := h5.2.1
  rcases pg_cargo' h5 h6 h7 a with ⟨g, g1, rfl, g3, g4⟩ | ⟨g3, g4⟩
  · obtain ⟨-, t1, -, -, -, -, -, t7, -⟩ := h6.2.2.2.2 g g1
    have ck : rk_ck S (oc g) 0 5 = some () := pr_ck t1
    have hgb := h5.2.2.2 g g1
    have hog := h6.1.1 g g1
    have m35 := (h7.2.2.2 g g1).1
    rcases pg_hand b with ⟨x, x1, rfl, x3, x4⟩ | ⟨-, x3, x4⟩
    · rcases pc_upper d with ⟨w, w1, rfl, w2, w3⟩ | ⟨w1, w2, w3⟩
      · have dw : nI w / 1000 = nI (w / 1000) := pr_dv (d := 1000) w1 (by omega) (by omega)
        have mw : rk_md (nI w) 1000 = nI (w % 1000) := pr_md (d := 1000) w1 (by omega) (by omega)
        have hn0 : ¬ nI w < 0 := nI_pos (by omega)
        rcases pg_hour (nI (w / 1000)) with ⟨y, y1, y2, y3, y4⟩ | ⟨-, y3, y4⟩
        · have hy : w / 1000 = y := (nI_eq (by omega) (by omega)).mp y2
          rcases pg_two e with ⟨q, q1, rfl, q3⟩ | ⟨⟨q1, q2⟩, q3⟩
          · have q0 : (nI q = 0 ∨ nI q = 1) := by
              rcases (by omega : q = 0 ∨ q = 1) with rfl | rfl
              · exact Or.inl rfl
              · exact Or.inr rfl
            have A : f_X9_falls S I R (nI g) (nI x) (nI w) (nI q) = f_X9_falls_j44 S I R (nI x) (nI w) (nI q) (oc g) := by
              unfold f_X9_falls
              rw [g3, pr_sb, pr_oc1, x3, pr_sb, if_neg (by decide), w2, pr_sb, y3, pr_sb, if_neg (by decide)]
              rcases q0 with q0 | q0
              · rw [if_pos q0]
              · rw [if_neg (by rw [q0]; decide), if_pos q0]
            by_cases hlost : w % 1000 ≤ cv g 0
            · obtain ⟨I1, R1, I2, m, L, dd, e1, e2, p1, p2, p3, p4, p5, p6⟩ := lz_both (w := 1) h5 h6 h7 g1 (by omega) y1 x1
              have e1 : f_X9_heldAt S I R (oc g) (nI x) (nI y) 1 = _ := e1
              have e2 : f_X10_lays I1 (nI g) (nI y) 1 = _ := e2
              have hH := lg_Hb h5 p1 g1 dd p2.1 x
              have hm := p1.1
              have hdm := p2.1
              let H := lg_H sv L (lg_0 cv g) dd x
              have hH : H ≤ 1000 * (dd + 1) := hH
              have hab : w % 1000 * H < 2 ^ 25 := by
                have : w % 1000 * H ≤ 999 * 25000 := Nat.mul_le_mul (by omega) (by omega)
                omega
              have hG := gc_C hab (by omega : cv g 0 < 2147483648) (by omega)
              have hp : 0 < Nat.gcd (cv g 0) (w % 1000 * H) := by
                rw [Nat.gcd_comm]
                exact Nat.gcd_pos_of_pos_right _ (by omega)
              have hle : Nat.gcd (cv g 0) (w % 1000 * H) ≤ cv g 0 := Nat.gcd_le_left _ (by omega)
              have hne : ¬ nI (Nat.gcd (cv g 0) (w % 1000 * H)) = 0 := nI_ne0 hp (by omega)
              have i1 : I1 (oc g) 1 = nI (cv g 0) := by rw [p4 _ _ (by unfold kp; omega)]; exact t7
              have m35' : ∀ K, kI I K → K 35 g = nI (cv g 0) := fun K hK => by rw [hK 35 g (by unfold kp; omega)]; exact m35
              have f2 : kI I I2 := kI_t p4 p5
              have hM : f_X10_common ((nI (w % 1000)).toInt64 * (nI H).toInt64) (nI (cv g 0)).toInt64 = some (lN (Nat.gcd (cv g 0) (w % 1000 * H))) := by
                rw [nI_l (by omega), nI_l (by omega), nI_l (by omega), lN_mul, gc_M (by omega) (by omega), Nat.gcd_comm]
              have hneL : ¬ lN (Nat.gcd (cv g 0) (w % 1000 * H)) = 0 := fun z => by have := (lN_0 (by omega)).mp z; omega
              have hd1 : ∀ z, z < 2 ^ 25 → z / Nat.gcd (cv g 0) (w % 1000 * H) < 2 ^ 25 := fun z hz => Nat.lt_of_le_of_lt (Nat.div_le_self _ _) hz
              refine ⟨lN ((if q = 0 then w % 1000 * H else cv g 0) / Nat.gcd (cv g 0) (w % 1000 * H)), I1, R1, I2, ?_, ?_, iv_k h' f2 p6⟩
              · rw [A]
                unfold f_X9_falls_j44
                rw [w3, pr_sb, ck, pr_sb, t7, if_pos (nI_le hlost (by omega)), w2, pr_sb, hy, e1, pr_b3, i1, pk_mul]
                rw [show lg_H sv L (lg_0 cv g) dd x = H from rfl, hG, pr_sb]
                unfold rk_div
                rcases (by omega : q = 0 ∨ q = 1) with rfl | rfl
                · rw [if_pos (by decide), if_neg hne, pr_dv (by omega) hp (by omega), pr_sb, nI_l (by have := hd1 _ hab; omega), if_pos rfl]
                · rw [if_neg (by decide), if_neg hne, pr_dv (by omega) hp (by omega), pr_sb, nI_l (by have := hd1 (cv g 0) (by omega); omega), if_neg (by decide)]
              · unfold f_X10_falls
                rw [g4 I1 p4, pr_sb, if_neg (by decide), x4, pr_sb, if_neg (by decide), if_neg hn0, dw, y4, pr_sb, if_neg (by decide), pr_rd (by omega) (by omega), m35' I1 p4, pr_sb, mw, if_neg (nI_nlt hlost (by omega)), q3, pr_sb, if_neg (by decide), hy, e2, pr_sb, pr_rd x1 (by omega), p3 x x1, pr_sb, pr_rd (by omega) (by omega), m35' I2 f2, pr_sb, pr_sb, pr_sb]
                rw [show lg_H sv L (lg_0 cv g) dd x = H from rfl, hM, pr_sb]
                unfold rk_ldiv
                rcases (by omega : q = 0 ∨ q = 1) with rfl | rfl
                · rw [if_pos (by decide), if_neg hneL, nI_l (by omega), nI_l (by omega), lN_mul, lN_div (by omega) (by omega), pr_sb, if_pos rfl]
                · rw [if_neg (by decide), pr_sb, if_neg hneL, nI_l (by omega), lN_div (by omega) (by omega), pr_sb, if_neg (by decide)]
            · refine bad ?_ ?_
              · rw [A]
                unfold f_X9_falls_j44
                rw [w3, pr_sb, ck, pr_sb, t7, if_neg (nI_ge (by omega) (by omega))]
              · unfold f_X10_falls
                rw [g4 I (kI_r _), pr_sb, if_neg (by decide), x4, pr_sb, if_neg (by decide), if_neg hn0, dw, y4, pr_sb, if_neg (by decide), pr_rd (by omega) (by omega), m35, pr_sb, mw, if_pos (nI_lt (by omega) (by omega))]
          · refine bad ?_ ?_
            · unfold f_X9_falls
              rw [g3, pr_sb, pr_oc1, x3, pr_sb, if_neg (by decide), w2, pr_sb, y3, pr_sb, if_neg (by decide), if_neg q1, if_neg q2]
            · unfold f_X10_falls
              rw [g4 I (kI_r _), pr_sb, if_neg (by decide), x4, pr_sb, if_neg (by decide), if_neg hn0, dw, y4, pr_sb, if_neg (by decide), pr_rd (by omega) (by omega), m35, pr_sb, mw, q3]
              split
              · rfl
              · rfl
        · refine bad ?_ ?_
          · unfold f_X9_falls
            rw [g3, pr_sb, pr_oc1, x3, pr_sb, if_neg (by decide), w2, pr_sb, y3]
            rfl
          · unfold f_X10_falls
            rw [g4 I (kI_r _), pr_sb, if_neg (by decide), x4, pr_sb, if_neg (by decide), if_neg hn0, dw, y4]
            rfl
      · refine bad ?_ ?_
        · unfold f_X9_falls
          rw [g3, pr_sb, pr_oc1, x3, pr_sb, if_neg (by decide), w2, pr_sb, show f_X9_isHour (-1) = some 0 by decide]
          rfl
        · unfold f_X10_falls
          rw [g4 I (kI_r _), pr_sb, if_neg (by decide), x4, pr_sb, if_neg (by decide), if_pos (by rw [fa_lt, pr_z]; exact w1)]
    · refine bad ?_ ?_
      · unfold f_X9_falls
        rw [g3, pr_sb, pr_oc1, x3]
        rfl
      · unfold f_X10_falls
        rw [g4 I (kI_r _), pr_sb, if_neg (by decide), x4]
        rfl
  · refine bad ?_ ?_
    · unfold f_X9_falls
      rw [g3]
      rfl
    · unfold f_X10_falls
      rw [g4 I (kI_r _)]
      rfl
