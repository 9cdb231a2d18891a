/-! moves, falls -/
def kd_v (sv : pv_V) (k v : Nat) : pv_V := fun j i => if j = k ∧ i = 0 then v else sv j i
theorem kd_o {sv : pv_V} {k v j i : Nat} (h : i ≠ 0) : kd_v sv k v j i = sv j i := if_neg (fun z => h z.2)
theorem kd_B {c s : Nat} {sv cv : pv_V} (h : pv_B c s sv cv) {k v : Nat} (hv : v < 6) : pv_B c s (kd_v sv k v) cv := by
  refine ⟨h.1, h.2.1, fun j hj => ?_, h.2.2.2⟩
  have g := h.2.2.1 j hj
  simp (disch := omega) only [kd_o]
  refine ⟨?_, g.2⟩
  unfold kd_v
  split
  · exact hv
  · exact g.1
theorem kd_X {n c s : Nat} {oc os : Nat → Nat} {sv cv : pv_V} {S : rk_Sh} {I : rk_I} {R : rk_R} (h : pv_X n c s oc os sv cv S I R) {k v : Nat} (hk : k < s) : pv_X n c s oc os (kd_v sv k v) cv S (rk_ui I (os k) 0 (nI v)) R := by
  obtain ⟨hO, x1, x2, x3, x4⟩ := h
  have hok := hO.2.1 k hk
  refine ⟨hO, by rw [ui_o (by omega)]; exact x1, by rw [ui_o (by omega)]; exact x2, fun j hj => ?_, fun j hj => ?_⟩
  · simp (disch := omega) only [kd_o]
    obtain ⟨g0, g1, g2, g3, g4, g5, g6, g7, g8, g9, g10⟩ := x3 j hj
    by_cases hjk : j = k
    · subst hjk
      rw [ui_s, ui_n (by omega), ui_n (by omega), ui_n (by omega), ui_n (by omega), ui_n (by omega), ui_n (by omega), ui_n (by omega)]
      refine ⟨g0, g1, g2, ?_, g4, g5, g6, g7, g8, g9, g10⟩
      unfold kd_v
      rw [if_pos ⟨rfl, rfl⟩]
    · have ne : os j ≠ os k := fun e => hjk (hO.2.2.2 j k hj hk e)
      rw [ui_o ne]
      refine ⟨g0, g1, g2, ?_, g4, g5, g6, g7, g8, g9, g10⟩
      unfold kd_v
      rw [if_neg (fun z => hjk z.1)]
      exact g3
  · have d := pv_dS x4 x3 hj hk
    rw [ui_o (Ne.symm d.1), ui_o (Ne.symm d.2.1)]
    exact x4 j hj
theorem kd_Y {c s : Nat} {sv cv : pv_V} {I : rk_I} (h : pv_Y c s sv cv I) {k v : Nat} : pv_Y c s (kd_v sv k v) cv (rk_ui I 38 k (nI v)) := by
  obtain ⟨h1, h2, h3, h4⟩ := h
  refine ⟨by rw [ui_o (by omega)]; exact h1, by rw [ui_o (by omega)]; exact h2, fun j hj => ?_, fun j hj => ?_⟩
  · simp (disch := omega) only [kd_o]
    obtain ⟨g0, g1⟩ := h3 j hj
    rw [ui_o (by omega : 39 ≠ 38), ui_o (by omega : 40 ≠ 38), ui_o (by omega : 41 ≠ 38), ui_o (by omega : 42 ≠ 38), ui_o (by omega : 43 ≠ 38), ui_o (by omega : 44 ≠ 38), ui_o (by omega : 45 ≠ 38), ui_o (by omega : 46 ≠ 38)]
    refine ⟨?_, g1⟩
    unfold kd_v
    by_cases hjk : j = k
    · subst hjk
      rw [ui_s, if_pos ⟨rfl, rfl⟩]
    · rw [ui_n hjk, if_neg (fun z => hjk z.1)]
      exact g0
  · rw [ui_o (by omega : 35 ≠ 38), ui_o (by omega : 36 ≠ 38), ui_o (by omega : 37 ≠ 38)]
    exact h4 j hj
theorem pg_kh (b : Int32) : (∃ v, v < 60 ∧ b = nI v ∧ ¬ b < 0 ∧ b / 10 = nI (v / 10) ∧ rk_md b 10 = nI (v % 10) ∧ f_X9_isKind (b / 10) = some 1 ∧ f_X10_in b.toInt64 0 59 = some 1) ∨ ((b < 0 ∨ (¬ b < 0 ∧ f_X9_isKind (b / 10) = some 0)) ∧ f_X10_in b.toInt64 0 59 = some 0) := by
  rcases pr_inN (x := b) (h := 59) (n := 60) (by omega) (by decide) with ⟨v, h1, rfl, h3⟩ | ⟨h1, h3⟩
  · left
    have e : nI v / 10 = nI (v / 10) := pr_dv (d := 10) (by omega) (by omega) (by omega)
    refine ⟨v, h1, rfl, nI_pos (by omega), e, pr_md (d := 10) (by omega) (by omega) (by omega), ?_, h3⟩
    rw [e]
    exact pr_hi (n := 6) (by decide) (by omega) (by omega)
  · right
    refine ⟨?_, h3⟩
    by_cases h0 : b < 0
    · exact Or.inl h0
    · right
      refine ⟨h0, ?_⟩
      obtain ⟨v, v1, rfl⟩ := nI_of h0
      rw [nI_toInt v1] at h1
      have e : nI v / 10 = nI (v / 10) := pr_dv (d := 10) (by omega) (by omega) (by omega)
      rw [e]
      refine pr_lo (n := 6) (by decide) ?_ rfl
      rw [nI_toInt (by omega)]
      omega
theorem ck_moves {n : Nat} {S : rk_Sh} {I : rk_I} {R : rk_R} (h : iv n S I R) (a b d : Int32) : ∃ v I1 R1 I2, f_X9_moves S I R a b d = some (v, I1, R1) ∧ f_X10_moves I1 a b d = some (v, I2) ∧ iv n S I2 R1 := by
  have h' := h
  obtain ⟨c, s, t, r, oc, os, ot, sv, cv, h1, h2, h3, h4, h5, h6, h7, h8, h9, h10, h11⟩ := h
  have bad : f_X9_moves S I R a b d = some (-4611686018427387904, I, R) → f_X10_moves I a b d = some (-4611686018427387904, I) → ∃ v I1 R1 I2, f_X9_moves S I R a b d = some (v, I1, R1) ∧ f_X10_moves I1 a b d = some (v, I2) ∧ iv n S I2 R1 := fun P Q => ⟨-4611686018427387904, I, R, I, P, Q, h'⟩
  have hO := h6.1
  have hs := h5.2.1
  have hc := h5.1
  rcases pg_sale' h5 h6 h7 a with ⟨k, k1, rfl, k3, k4⟩ | ⟨k3, k4⟩
  · obtain ⟨r0, r1, r2, rk0, -⟩ := h6.2.2.2.1 k k1
    have hb := h5.2.2.1 k k1
    have hok := hO.2.1 k k1
    have ck : rk_ck S (os k) 5 11 = some () := pr_ck r1
    have hd := (h6.2.2.2.2 (sv k 1) hb.2.1).2.1
    rcases pg_kh b with ⟨v, v1, rfl, v2, v3, v4, v5, v6⟩ | ⟨v5, v6⟩
    · rcases pg_hour d with ⟨y, y1, rfl, y3, y4⟩ | ⟨-, y3, y4⟩
      · obtain ⟨I1, R1, m, L, dd, e1, p1, p2, p3, p4, p5⟩ := lc_held (w := 1) h5 h6 hb.2.1 (by omega) (by omega : y < 2147483648) (by omega : v % 10 < 10)
        have e1 : f_X9_heldAt S I R (oc (sv k 1)) (nI (v % 10)) (nI y) 1 = _ := e1
        have hX1 := kX h6 (kI_led p4) (kR_led p5)
        have hX2 := kd_X hX1 (v := v / 10) k1
        have hB2 := kd_B h5 (k := k) (v := v / 10) (by omega)
        have hg2 : kd_v sv k (v / 10) k 1 = sv k 1 := kd_o (by omega)
        obtain ⟨I3, R2, m2, L2, d2, e2, q1, q2, q3, q4, q5⟩ := lc_held (w := 1) hB2 hX2 hb.2.1 (by omega) (by omega : y < 2147483648) (by omega : v % 10 < 10)
        have e2 : f_X9_heldAt S (rk_ui I1 (os k) 0 (nI (v / 10))) R1 (oc (sv k 1)) (nI (v % 10)) (nI y) 1 = _ := e2
        have f4 : kI I (rk_ui I3 (os k) 0 (nI (sv k 0))) := fun q i hq => by
          by_cases h1 : q = os k
          · subst h1
            by_cases h2 : i = 0
            · subst h2
              rw [ui_s, rk0]
            · rw [ui_n h2, q4 _ i (by omega) (by omega) (by omega), ui_n h2, p4 _ i (by omega) (by omega) (by omega)]
          · rw [ui_o h1]
            unfold kp at hq
            rw [q4 q i (by omega) (by omega) (by omega), ui_o h1, p4 q i (by omega) (by omega) (by omega)]
        have fR : kR R R2 := kR_t (kR_led p5) (kR_led q5)
        have hY4 := kY h7 f4
        obtain ⟨J1, e3, s1, s2⟩ := ly_lays (w := 1) h5 hY4 hb.2.1 (by omega) y1 p1 p2
        have e3 : f_X10_lays (rk_ui I3 (os k) 0 (nI (sv k 0))) (nI (sv k 1)) (nI y) 1 = some J1 := e3
        have hY5 := kY hY4 (kI_lay s2)
        have hY6 := kd_Y hY5 (k := k) (v := v / 10)
        obtain ⟨J3, e4, t1, t2⟩ := ly_lays (w := 1) hB2 hY6 hb.2.1 (by omega) y1 q1 q2
        have e4 : f_X10_lays (rk_ui J1 38 k (nI (v / 10))) (nI (sv k 1)) (nI y) 1 = some J3 := e4
        refine ⟨(nI (lg_H (kd_v sv k (v / 10)) L2 (lg_0 cv (sv k 1)) d2 (v % 10)) - nI (lg_H sv L (lg_0 cv (sv k 1)) dd (v % 10))).toInt64, rk_ui I3 (os k) 0 (nI (sv k 0)), R2, rk_ui J3 38 k (nI (sv k 0)), ?_, ?_, iv_k h' (kI_t f4 ?_) fR⟩
        · have g1 : I1 (os k) 0 = nI (sv k 0) := (hX1.2.2.2.1 k k1).2.2.2.1
          have g2 : R1 (os k) 1 = some (oc (sv k 1)) := (hX1.2.2.2.1 k k1).2.2.1
          unfold f_X9_moves
          rw [k3, pr_sb, pr_oc1, if_neg v2, v5, pr_sb, if_neg (by decide), y3, pr_sb, if_neg (by decide), ck, pr_sb, pr_sb, r2, pr_dr hd, pr_sb, v4, v3, e1, pr_b3, pr_sb, pr_sb, g2, pr_dr hd, pr_sb, e2, pr_b3, pr_sb, g1]
        · have m38 : J1 38 k = nI (sv k 0) := (hY5.2.2.1 k k1).1
          have m39 : rk_ui I3 (os k) 0 (nI (sv k 0)) 39 k = nI (sv k 1) := (hY4.2.2.1 k k1).2.1
          have m39' : rk_ui J1 38 k (nI (v / 10)) 39 k = nI (sv k 1) := by
            rw [ui_o (by omega)]
            exact (hY5.2.2.1 k k1).2.1
          unfold f_X10_moves
          rw [k4 _ f4, pr_sb, if_neg (by decide), v6, pr_sb, if_neg (by decide), y4, pr_sb, if_neg (by decide), pr_rd (by omega) (by omega), m39, pr_sb, e3, pr_sb, v4, v3, pr_rd (by omega) (by omega), s1 _ (by omega), pr_sb, pr_rd (by omega) (by omega), m38, pr_sb, pr_wr (by omega) (by omega), pr_sb, pr_rd (by omega) (by omega), m39', pr_sb, e4, pr_sb, pr_wr (by omega) (by omega), pr_sb, pr_rd (by omega) (by omega), ui_o (by omega), t1 _ (by omega), pr_sb]
        · intro q i hq
          have hq' := hq
          unfold kp at hq
          by_cases h1 : q = 38
          · subst h1
            by_cases h2 : i = k
            · subst h2
              rw [ui_s]
              exact ((hY4.2.2.1 i k1).1).symm
            · rw [ui_n h2, t2 38 (by omega) (by omega), ui_n h2, s2 38 (by omega) (by omega)]
          · rw [ui_o h1, t2 q (by omega) (by omega), ui_o h1, s2 q (by omega) (by omega)]
      · refine bad ?_ ?_
        · unfold f_X9_moves
          rw [k3, pr_sb, pr_oc1, if_neg v2, v5, pr_sb, if_neg (by decide), y3]
          rfl
        · unfold f_X10_moves
          rw [k4 I (kI_r _), pr_sb, if_neg (by decide), v6, pr_sb, if_neg (by decide), y4]
          rfl
    · refine bad ?_ ?_
      · unfold f_X9_moves
        rw [k3, pr_sb, pr_oc1]
        rcases v5 with h0 | ⟨h0, h1⟩
        · rw [if_pos h0]
        · rw [if_neg h0, h1]
          rfl
      · unfold f_X10_moves
        rw [k4 I (kI_r _), pr_sb, if_neg (by decide), v6]
        rfl
  · refine bad ?_ ?_
    · unfold f_X9_moves
      rw [k3]
      rfl
    · unfold f_X10_moves
      rw [k4 I (kI_r _)]
      rfl
