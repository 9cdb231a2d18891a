/-! differ -/
def df_A (sv : pv_V) (b h : Nat) : Nat → Int64
  | 0 => 0
  | k + 1 => if b.testBit k then (if sv k 2 = h then df_A sv b h k + lN (sv k 5 * sv k 4) else if sv k 3 = h then df_A sv b h k - lN (sv k 5 * sv k 4) else df_A sv b h k) else df_A sv b h k
theorem du_N {p a : Nat} (hp : p < 1000) (ha : a < 1000) : (nI p * nI a).toInt64 = lN (p * a) := by
  have : p * a ≤ 999 * 999 := Nat.mul_le_mul (by omega) (by omega)
  rw [pk_mul, nI_l (by omega)]
theorem ck_differ {n : Nat} {S : rk_Sh} {I : rk_I} {R : rk_R} (h : iv n S I R) (a d : Int32) : ∃ v I1 R1, f_X9_differ S I R a d = some (v, I1, R1) ∧ f_X10_differ I1 a d = some v ∧ iv n S I1 R1 := by
  have h' := h
  obtain ⟨c, s, t, r, oc, os, ot, sv, cv, h1, h2, h3, h4, h5, h6, h7, h8, h9, h10, h11⟩ := h
  have hs := h5.2.1
  rcases pg_hand d with ⟨x, x1, rfl, x3, x4⟩ | ⟨-, x3, x4⟩
  · rcases rg_both h5 h6 h7 a with ⟨b, b0, b1, rfl, q1, q2, q3⟩ | ⟨q2, q3⟩
    · have hb31 := rb_lt31 hs b1
      obtain ⟨I1, R1, hr, g1, g2⟩ := rc_ring h5 h6 b0 b1
      have k1 := kI_ring g1
      have hX1 := kX h6 k1 g2
      have hY1 := kY h7 k1
      have hm := rm_ring h5 hY1 hb31
      rcases hr with ⟨r1, r2⟩ | ⟨r1, r2⟩
      · have m1 : f_X10_isRing I1 (nI b) = some 1 := by
          rcases hm with ⟨-, m⟩ | ⟨m, -⟩
          · exact m
          · exact absurd r1 m
        have c1 : f_X9_differenceOf S I1 R1 (nI x) (nI b) = some (df_A sv b x s) := by
          unfold f_X9_differenceOf
          rw [show ((0 : Int64), (0 : Int32)) = (fun k => (df_A sv b x k, nI k)) 0 from rfl, pr_run (f := fun a9 : Int64 × Int32 => f_X9_differenceOf_l5 S I1 R1 (nI x) (nI b) a9.1 a9.2) (fun k => (df_A sv b x k, nI k)) s (b := (df_A sv b x s, nI s))]
          · rfl
          · intro k hk
            show f_X9_differenceOf_l5 S I1 R1 (nI x) (nI b) (df_A sv b x k) (nI k) = _
            obtain ⟨z0, z1, -, -, z2, z3, z4, z5, -⟩ := hX1.2.2.2.1 k hk
            have hbb := h5.2.2.1 k hk
            have hu : df_A sv b x (k + 1) = if b.testBit k then (if sv k 2 = x then df_A sv b x k + lN (sv k 5 * sv k 4) else if sv k 3 = x then df_A sv b x k - lN (sv k 5 * sv k 4) else df_A sv b x k) else df_A sv b x k := rfl
            unfold f_X9_differenceOf_l5 f_X5_due
            rw [hX1.2.2.1, if_neg (nI_ge hk (by omega)), rb_us hb31 (by omega), pr_rdR (by omega) (by omega), z0, pr_sb, pr_dr z1, pr_sb, z2, z3, z4, z5, pr_sb, pr_sb, du_N (by omega) (by omega), hu, nI_1]
            cases hbk : b.testBit k with
            | false =>
              rw [if_pos ((rb_t hb31).mpr hbk)]
              rfl
            | true =>
              have hnb : ¬ (nI (b / 2 ^ k) &&& 1 = 0) := fun w => by rw [(rb_t hb31).mp w] at hbk; cases hbk
              rw [if_neg hnb, if_pos rfl]
              by_cases e2 : sv k 2 = x
              · rw [if_pos (by rw [e2]), if_pos e2]
              · rw [if_neg (fun z => e2 ((nI_eq (by omega) (by omega)).mp z)), if_neg e2]
                by_cases e3 : sv k 3 = x
                · rw [if_pos (by rw [e3]), if_pos e3]
                · rw [if_neg (fun z => e3 ((nI_eq (by omega) (by omega)).mp z)), if_neg e3]
          · show f_X9_differenceOf_l5 S I1 R1 (nI x) (nI b) (df_A sv b x s) (nI s) = _
            unfold f_X9_differenceOf_l5
            rw [hX1.2.2.1, if_pos (nI_le (Nat.le_refl _) (by omega))]
        have c2 : rk_while (fun a9 : Int64 × Int32 => f_X10_differ_l40 I1 (nI b) (nI x) a9.1 a9.2) (0, 0) = some (df_A sv b x s, nI s) := by
          refine pr_run (f := fun a9 : Int64 × Int32 => f_X10_differ_l40 I1 (nI b) (nI x) a9.1 a9.2) (fun k => (df_A sv b x k, nI k)) s ?_ ?_
          · intro k hk
            show f_X10_differ_l40 I1 (nI b) (nI x) (df_A sv b x k) (nI k) = _
            obtain ⟨-, -, z2, z3, z4, z5, -⟩ := hY1.2.2.1 k hk
            have hbb := h5.2.2.1 k hk
            have hu : df_A sv b x (k + 1) = if b.testBit k then (if sv k 2 = x then df_A sv b x k + lN (sv k 5 * sv k 4) else if sv k 3 = x then df_A sv b x k - lN (sv k 5 * sv k 4) else df_A sv b x k) else df_A sv b x k := rfl
            have hdue : f_X10_dueOf I1 (nI k) = some (nI (sv k 5) * nI (sv k 4)) := by
              unfold f_X10_dueOf
              rw [pr_rd (by omega) (by omega), z5, pr_sb, pr_rd (by omega) (by omega), z4, pr_sb]
            unfold f_X10_differ_l40 f_X10_differ_j84
            rw [hY1.2.1, if_neg (nI_ge hk (by omega)), rb_sh hb31 (by omega), pr_rd (by omega) (by omega), pr_rd (by omega) (by omega), z2, z3, hdue, pr_sb, pr_sb, pr_sb, pr_sb, pr_sb, du_N (by omega) (by omega), hu, nI_1]
            cases hbk : b.testBit k with
            | false =>
              rw [if_pos ((rb_t hb31).mpr hbk)]
              rfl
            | true =>
              have hnb : ¬ (nI (b / 2 ^ k) &&& 1 = 0) := fun w => by rw [(rb_t hb31).mp w] at hbk; cases hbk
              rw [if_neg hnb, if_pos rfl]
              by_cases e2 : sv k 2 = x
              · have e3 : ¬ sv k 3 = x := fun z => hbb.2.2.2.2.1 (by omega)
                rw [if_pos (by rw [e2]), if_pos e2, if_neg (fun z => e3 ((nI_eq (by omega) (by omega)).mp z)), Int64.sub_zero]
              · rw [if_neg (fun z => e2 ((nI_eq (by omega) (by omega)).mp z)), if_neg e2]
                by_cases e3 : sv k 3 = x
                · rw [if_pos (by rw [e3]), if_pos e3, Int64.add_zero, pr_sb, du_N (by omega) (by omega)]
                · rw [if_neg (fun z => e3 ((nI_eq (by omega) (by omega)).mp z)), if_neg e3, Int64.add_zero, Int64.sub_zero]
          · show f_X10_differ_l40 I1 (nI b) (nI x) (df_A sv b x s) (nI s) = _
            unfold f_X10_differ_l40
            rw [hY1.2.1, if_pos (nI_le (Nat.le_refl _) (by omega))]
        refine ⟨df_A sv b x s, I1, R1, ?_, ?_, iv_k h' k1 g2⟩
        · unfold f_X9_differ
          rw [x3, pr_sb, if_neg (by decide), q2, pr_sb, if_neg (by decide), h6.2.2.1, r2, pr_b3, if_neg (by decide), c1, pr_sb]
        · unfold f_X10_differ
          rw [x4, pr_sb, if_neg (by decide), q3 I1 k1, pr_sb, if_neg (by decide), m1, pr_sb, if_neg (by decide), c2, pr_b2]
      · have m1 : f_X10_isRing I1 (nI b) = some 0 := by
          rcases hm with ⟨m, -⟩ | ⟨-, m⟩
          · exact absurd m r1
          · exact m
        refine ⟨-3, I1, R1, ?_, ?_, iv_k h' k1 g2⟩
        · unfold f_X9_differ
          rw [x3, pr_sb, if_neg (by decide), q2, pr_sb, if_neg (by decide), h6.2.2.1, r2, pr_b3, if_pos rfl]
        · unfold f_X10_differ
          rw [x4, pr_sb, if_neg (by decide), q3 I1 k1, pr_sb, if_neg (by decide), m1, pr_sb, if_pos rfl]
    · refine ⟨-2, I, R, ?_, ?_, h'⟩
      · unfold f_X9_differ
        rw [x3, pr_sb, if_neg (by decide), q2]
        rfl
      · unfold f_X10_differ
        rw [x4, pr_sb, if_neg (by decide), q3 I (kI_r _)]
        rfl
  · refine ⟨-4611686018427387904, I, R, ?_, ?_, h'⟩
    · unfold f_X9_differ
      rw [x3]
      rfl
    · unfold f_X10_differ
      rw [x4]
      rfl
