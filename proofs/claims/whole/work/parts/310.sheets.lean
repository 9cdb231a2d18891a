/-! sheet, cell, copy -/
theorem sh_C {S : rk_Sh} {R : rk_R} (h : rk_LC S R) {q : Nat} (hq : q < 4) : S (20 + 2 * q) = (6, 3) ∧ S (21 + 2 * q) = (20, 40) ∧ R 18 q = some (20 + 2 * q) ∧ R (20 + 2 * q) 0 = some (21 + 2 * q) := by
  rcases (by omega : q = 0 ∨ q = 1 ∨ q = 2 ∨ q = 3) with rfl | rfl | rfl | rfl
  · exact ⟨h.1 20 (by omega), h.1 21 (by omega), h.2 18 0 20 rfl, h.2 20 0 21 rfl⟩
  · exact ⟨h.1 22 (by omega), h.1 23 (by omega), h.2 18 1 22 rfl, h.2 22 0 23 rfl⟩
  · exact ⟨h.1 24 (by omega), h.1 25 (by omega), h.2 18 2 24 rfl, h.2 24 0 25 rfl⟩
  · exact ⟨h.1 26 (by omega), h.1 27 (by omega), h.2 18 3 26 rfl, h.2 26 0 27 rfl⟩
theorem pg_sheet {S : rk_Sh} {R : rk_R} (h : rk_LC S R) (a : Int32) : (∃ q, q < 4 ∧ a = nI q ∧ f_X9_sheetAt R a = some (some (20 + 2 * q)) ∧ f_X10_isSheet a = some 1) ∨ (f_X9_sheetAt R a = some none ∧ f_X10_isSheet a = some 0) := by
  unfold f_X9_sheetAt f_X10_isSheet
  rcases pr_inN (x := a) (h := 3) (n := 4) (by omega) (by decide) with ⟨j, g1, rfl, g3⟩ | ⟨g1, g3⟩
  · left
    refine ⟨j, g1, rfl, ?_, ?_⟩
    · rw [pr_hi (n := 4) (by decide) g1 (by omega), pr_rdR g1 (by omega), (sh_C h g1).2.2.1]; rfl
    · rw [g3]; exact pr_bl1
  · right
    refine ⟨pr_lo (n := 4) (by decide) g1 rfl, ?_⟩
    rw [g3]; exact pr_bl0
theorem pg_sort (a : Int32) : (∃ e, e < 4 ∧ a = nI e - 1 ∧ ¬ a < -1 ∧ ¬ 3 ≤ a ∧ f_X10_in a.toInt64 (-1) 2 = some 1) ∨ ((a < -1 ∨ 3 ≤ a) ∧ f_X10_in a.toInt64 (-1) 2 = some 0) := by
  have e1 : (-1 : Int64).toInt = -1 := by decide
  have e2 : (2 : Int64).toInt = 2 := by decide
  have f1 : (-1 : Int32).toInt = -1 := by decide
  have f3 : (3 : Int32).toInt = 3 := by decide
  rw [pr_inI e1 e2]
  simp only [fa_lt, fa_le, f1, f3]
  by_cases h : -1 ≤ a.toInt ∧ a.toInt ≤ 2
  · left
    rw [if_pos h]
    by_cases h0 : a = -1
    · exact ⟨0, by omega, h0.trans pr_m1, by omega, by omega, rfl⟩
    · have h0' : a.toInt ≠ -1 := fun e => h0 (by rw [fa_eq, f1]; exact e)
      rcases pr_tri a 3 (by omega) with ⟨j, h1, h2⟩ | h1
      · exact ⟨j + 1, by omega, by rw [h2, pr_Ms], by omega, by omega, rfl⟩
      · omega
  · right
    rw [if_neg h]
    exact ⟨by omega, rfl⟩
def fl_F (I : rk_I) (o a k : Nat) : rk_I := fun p i => if p = o ∧ a ≤ i ∧ i < a + k then 0 else I p i
theorem fl_step {I : rk_I} {o a k : Nat} : rk_ui (fl_F I o a k) o (a + k) 0 = fl_F I o a (k + 1) := by
  funext p i
  by_cases hp : p = o
  · subst hp
    by_cases hi : i = a + k
    · subst hi
      rw [ui_s]
      unfold fl_F
      rw [if_pos (by omega)]
    · rw [ui_n hi]
      unfold fl_F
      by_cases h : a ≤ i ∧ i < a + k
      · rw [if_pos ⟨rfl, h⟩, if_pos (by omega)]
      · rw [if_neg (fun z => h z.2), if_neg (by omega)]
  · rw [ui_o hp]
    unfold fl_F
    rw [if_neg (fun z => hp z.1), if_neg (fun z => hp z.1)]
theorem fl_zero {I : rk_I} {o a : Nat} : fl_F I o a 0 = I := by
  funext p i
  unfold fl_F
  rw [if_neg (by omega)]
theorem fl_run {S : rk_Sh} {I : rk_I} {o : Nat} (hS : S o = (20, 40)) : f_J7_fill_53178 S I o 0 = some (fl_F I o 0 40) := by
  unfold f_J7_fill_53178
  rw [pr_al hS, pr_sb]
  have z : ((0 : Int32), I) = (fun k => (nI k, fl_F I o 0 k)) 0 := by
    show _ = (nI 0, fl_F I o 0 0)
    rw [fl_zero]
    rfl
  rw [z, pr_run (f := fun a9 : Int32 × rk_I => f_J7_fill_53178_l5 S a9.2 o 0 a9.1 (Int32.ofNat 40)) (fun k => (nI k, fl_F I o 0 k)) 40 (b := (nI 40, fl_F I o 0 40))]
  · rfl
  · intro k hk
    show f_J7_fill_53178_l5 S (fl_F I o 0 k) o 0 (nI k) (nI 40) = _
    unfold f_J7_fill_53178_l5
    have e := fl_step (I := I) (o := o) (a := 0) (k := k)
    rw [Nat.zero_add] at e
    rw [if_neg (nI_ge hk (by omega)), pr_wrD hS hk (by omega), pr_sb, nI_1, e]
  · show f_J7_fill_53178_l5 S (fl_F I o 0 40) o 0 (nI 40) (nI 40) = _
    unfold f_J7_fill_53178_l5
    rw [if_pos (nI_le (Nat.le_refl _) (by omega))]
theorem sh_become {S : rk_Sh} {I : rk_I} {R : rk_R} (h : rk_LC S R) {q : Nat} (hq : q < 4) (x y : Int32) : f_X6_become S I R (20 + 2 * q) x y = some (fl_F (rk_ui (rk_ui I (20 + 2 * q) 1 x) (20 + 2 * q) 2 y) (21 + 2 * q) 0 40) := by
  unfold f_X6_become
  rw [pr_sb, pr_sb, pr_sb, (sh_C h hq).2.2.2, pr_sb, fl_run (sh_C h hq).2.1]
  rfl
/-- the reference's row after a sheet came -/
theorem sh_m {I : rk_I} {q m : Nat} (hq : q < 4) (hm : m ≤ 40) (a : Nat) (ha : a < 3) : rk_while (fun a9 : Int32 × rk_I => f_X10_sheet_l77 a9.2 (nI q) (nI a) (nI m) a9.1) (0, I) = some (nI m, fl_F I 56 (40 * q) m) := by
  have z : ((0 : Int32), I) = (fun k => (nI k, fl_F I 56 (40 * q) k)) 0 := by
    show _ = (nI 0, fl_F I 56 (40 * q) 0)
    rw [fl_zero]
    rfl
  rw [z]
  refine pr_run (f := fun a9 : Int32 × rk_I => f_X10_sheet_l77 a9.2 (nI q) (nI a) (nI m) a9.1) (fun k => (nI k, fl_F I 56 (40 * q) k)) m ?_ ?_
  · intro k hk
    show f_X10_sheet_l77 (fl_F I 56 (40 * q) k) (nI q) (nI a) (nI m) (nI k) = _
    unfold f_X10_sheet_l77
    have e : (40 : Int32) * nI q + nI k = nI (40 * q + k) := by rw [show (40 : Int32) = nI 40 from rfl, pk_mul, nI_add]
    rw [if_neg (nI_ge hk (by omega)), if_neg (nI_pos (by omega)), e, pr_wr (by omega) (by omega), pr_sb, nI_1, fl_step]
  · show f_X10_sheet_l77 (fl_F I 56 (40 * q) m) (nI q) (nI a) (nI m) (nI m) = _
    unfold f_X10_sheet_l77
    rw [if_pos (nI_le (Nat.le_refl _) (by omega))]
theorem sh_m0 {I : rk_I} {x : Int32} {q : Nat} : rk_while (fun a9 : Int32 × rk_I => f_X10_sheet_l77 a9.2 (nI q) (-1) x a9.1) (0, I) = some (0, I) := by
  refine rk_while_out ?_
  show f_X10_sheet_l77 I (nI q) (-1) x 0 = _
  unfold f_X10_sheet_l77
  by_cases h : x ≤ 0
  · rw [if_pos h]
  · rw [if_neg h, if_pos (by decide)]
set_option maxHeartbeats 4000000 in
theorem ck_sheet {n : Nat} {S : rk_Sh} {I : rk_I} {R : rk_R} (h : iv n S I R) (a b d : Int32) : ∃ v I1 I2, f_X9_sheet S I R a b d = some (v, I1) ∧ f_X10_sheet I1 a b d = some (v, I2) ∧ iv n S I2 R := by
  have h' := h
  obtain ⟨c, s, t, r, oc, os, ot, sv, cv, h1, h2, h3, h4, h5, h6, h7, h8, h9, h10, h11⟩ := h
  have m40 : (40 : Int32).toInt = 40 := by decide
  unfold f_X9_sheet f_X10_sheet
  rcases pg_sheet h1 a with ⟨q, q1, rfl, q3, q4⟩ | ⟨q3, q4⟩
  · have hC := sh_C h1 q1
    have ck : rk_ck S (20 + 2 * q) 6 3 = some () := pr_ck hC.1
    rcases pg_sort b with ⟨e, e1, rfl, e2, e3, e4⟩ | ⟨e3, e4⟩
    · rcases Nat.eq_zero_or_pos e with he | he
      · subst he
        have b1 : (nI 0 - 1 : Int32) = -1 := by decide
        rw [b1] at e2 e3 e4 ⊢
        have b0 : (-1 : Int32) < 0 := by decide
        refine ⟨1, fl_F (rk_ui (rk_ui I (20 + 2 * q) 1 (-1)) (20 + 2 * q) 2 0) (21 + 2 * q) 0 40, rk_ui (rk_ui (rk_ui (fl_F (rk_ui (rk_ui I (20 + 2 * q) 1 (-1)) (20 + 2 * q) 2 0) (21 + 2 * q) 0 40) 53 q 0) 54 q (-1)) 55 q d, ?_, ?_, ?_⟩
        · rw [q3, pr_sb, pr_oc1, if_neg e2, if_neg e3, if_pos rfl]
          unfold f_X9_sheet_j36
          rw [if_pos rfl, if_pos rfl, ck, pr_sb, sh_become h1 q1]
          rfl
        · rw [q4, pr_sb, if_neg (by decide), e4, pr_sb, if_neg (by decide), if_pos b0]
          unfold f_X10_sheet_j34
          rw [if_pos b0]
          unfold f_X10_sheet_j45
          rw [if_pos b0]
          unfold f_X10_sheet_j59
          rw [pr_bl0, pr_sb, pr_wr q1 (by omega), pr_sb, pr_wr q1 (by omega), pr_sb, pr_wr q1 (by omega), pr_sb, sh_m0]
          rfl
        · refine iv_FH h' (fun k i _ b1 b2 b3 b4 b5 b6 => ?_) (mF h9 ?_ ?_ ?_ ?_) (fun p hp => ?_) (kR_r _)
          · rw [ui_o (by omega), ui_o (by omega), ui_o (by omega)]
            unfold fl_F
            rw [if_neg (by omega), ui_o (by omega), ui_o (by omega)]
          · rw [ui_o (by omega), ui_o (by omega), ui_o (by omega)]
            unfold fl_F
            rw [if_neg (by omega), ui_o (by omega), ui_o (by omega)]
          · rw [ui_o (by omega), ui_o (by omega), ui_o (by omega)]
            unfold fl_F
            rw [if_neg (by omega), ui_o (by omega), ui_o (by omega)]
          · rw [ui_o (by omega), ui_o (by omega), ui_o (by omega)]
            funext i
            unfold fl_F
            rw [if_neg (by omega), ui_o (by omega), ui_o (by omega)]
          · rw [ui_o (by omega), ui_o (by omega), ui_o (by omega)]
            funext i
            unfold fl_F
            rw [if_neg (by omega), ui_o (by omega), ui_o (by omega)]
          · by_cases hpq : p = q
            · subst hpq
              left
              constructor
              · rw [ui_o (by omega), ui_o (by omega), ui_o (by omega)]
                unfold fl_F
                rw [if_neg (by omega), ui_n (by omega), ui_s]
              · rw [ui_o (by omega), ui_o (by omega), ui_s]
            · have g := h10 p hp
              have z : ∀ i, (fl_F (rk_ui (rk_ui I (20 + 2 * q) 1 (-1)) (20 + 2 * q) 2 0) (21 + 2 * q) 0 40) (20 + 2 * p) i = I (20 + 2 * p) i := fun i => by
                unfold fl_F
                rw [if_neg (by omega), ui_o (by omega), ui_o (by omega)]
              have z1 : ∀ i, (fl_F (rk_ui (rk_ui I (20 + 2 * q) 1 (-1)) (20 + 2 * q) 2 0) (21 + 2 * q) 0 40) (21 + 2 * p) i = I (21 + 2 * p) i := fun i => by
                unfold fl_F
                rw [if_neg (by omega), ui_o (by omega), ui_o (by omega)]
              have z2 : ∀ k i, 53 ≤ k → (fl_F (rk_ui (rk_ui I (20 + 2 * q) 1 (-1)) (20 + 2 * q) 2 0) (21 + 2 * q) 0 40) k i = I k i := fun k i hk => by
                unfold fl_F
                rw [if_neg (by omega), ui_o (by omega), ui_o (by omega)]
              simp (disch := omega) only [ui_o, ui_n, z, z1, z2]
              exact g
      · obtain ⟨e', rfl⟩ : ∃ e', e = e' + 1 := ⟨e - 1, by omega⟩
        rw [pr_Ms] at *
        have b0 : ¬ nI e' < 0 := nI_pos (by omega)
        have b1 : ¬ nI e' = -1 := pr_n1 (by omega)
        rcases pr_tri d 41 (by omega) with ⟨m, m1, rfl⟩ | hd
        · have l40 : nI m ≤ 40 := by rw [fa_le, m40, nI_toInt (by omega)]; omega
          have l0 : 0 ≤ nI m := nI_pos' (by omega)
          refine ⟨1, fl_F (rk_ui (rk_ui I (20 + 2 * q) 1 (nI e')) (20 + 2 * q) 2 (nI m)) (21 + 2 * q) 0 40, fl_F (rk_ui (rk_ui (rk_ui (fl_F (rk_ui (rk_ui I (20 + 2 * q) 1 (nI e')) (20 + 2 * q) 2 (nI m)) (21 + 2 * q) 0 40) 53 q 1) 54 q (nI e')) 55 q (nI m)) 56 (40 * q) m, ?_, ?_, ?_⟩
          · rw [q3, pr_sb, pr_oc1, if_neg e2, if_neg e3, if_neg b1, if_pos l40]
            unfold f_X9_sheet_j36
            rw [if_neg b1, if_pos l0, if_neg b1, ck, pr_sb, sh_become h1 q1]
            rfl
          · rw [q4, pr_sb, if_neg (by decide), e4, pr_sb, if_neg (by decide), if_neg b0, if_pos l40]
            unfold f_X10_sheet_j34
            rw [if_neg b0, if_pos l0]
            unfold f_X10_sheet_j45
            rw [if_neg b0]
            unfold f_X10_sheet_j59
            rw [pr_bl1, pr_sb, pr_wr q1 (by omega), pr_sb, pr_wr q1 (by omega), pr_sb, pr_wr q1 (by omega), pr_sb, sh_m q1 (by omega) e' (by omega)]
            rfl
          · have zz : ∀ k i, k ≠ 21 + 2 * q → k ≠ 20 + 2 * q → (fl_F (rk_ui (rk_ui I (20 + 2 * q) 1 (nI e')) (20 + 2 * q) 2 (nI m)) (21 + 2 * q) 0 40) k i = I k i := fun k i hk hk2 => by
              unfold fl_F
              rw [if_neg (by omega), ui_o hk2, ui_o hk2]
            have z56 : ∀ (J : rk_I) k i, k ≠ 56 → fl_F J 56 (40 * q) m k i = J k i := fun J k i hk => by
              unfold fl_F
              rw [if_neg (by omega)]
            refine iv_FH h' (fun k i _ b1 b2 b3 b4 b5 b6 => ?_) (mF h9 ?_ ?_ ?_ ?_) (fun p hp => ?_) (kR_r _)
            · simp (disch := omega) only [z56, ui_o, zz]
            · simp (disch := omega) only [z56, ui_o, zz]
            · simp (disch := omega) only [z56, ui_o, zz]
            · funext i
              simp (disch := omega) only [z56, ui_o, zz]
            · funext i
              simp (disch := omega) only [z56, ui_o, zz]
            · by_cases hpq : p = q
              · subst hpq
                right
                refine ⟨?_, e', m, by omega, by omega, ?_, ?_, ?_, ?_, fun i hi => ?_⟩
                · simp (disch := omega) only [z56, ui_o, ui_s]
                · simp (disch := omega) only [z56, ui_o]
                  unfold fl_F
                  rw [if_neg (by omega), ui_n (by omega), ui_s]
                · simp (disch := omega) only [z56, ui_o, ui_s]
                · simp (disch := omega) only [z56, ui_o]
                  unfold fl_F
                  rw [if_neg (by omega), ui_s]
                · simp (disch := omega) only [z56, ui_s]
                · simp (disch := omega) only [z56, ui_o]
                  unfold fl_F
                  rw [if_pos (by omega), if_pos (by omega)]
              · have g := h10 p hp
                have e56 : ∀ (J : rk_I) i, i < 40 → fl_F J 56 (40 * q) m 56 (40 * p + i) = J 56 (40 * p + i) := fun J i hi => by
                  unfold fl_F
                  rw [if_neg (by omega)]
                rcases g with ⟨g1, g2⟩ | ⟨g1, w, v, w1, w2, w3, w4, w5, w6, w7⟩
                · left
                  simp (disch := omega) only [z56, ui_o, ui_n, zz]
                  exact ⟨g1, g2⟩
                · right
                  refine ⟨?_, w, v, w1, w2, ?_, ?_, ?_, ?_, fun i hi => ?_⟩
                  · simp (disch := omega) only [z56, ui_o, ui_n, zz]; exact g1
                  · simp (disch := omega) only [z56, ui_o, ui_n, zz]; exact w3
                  · simp (disch := omega) only [z56, ui_o, ui_n, zz]; exact w4
                  · simp (disch := omega) only [z56, ui_o, ui_n, zz]; exact w5
                  · simp (disch := omega) only [z56, ui_o, ui_n, zz]; exact w6
                  · rw [e56 _ _ (by omega)]
                    simp (disch := omega) only [z56, ui_o, ui_n, zz]
                    exact w7 i hi
        · have hd' : d.toInt < 0 ∨ 41 ≤ d.toInt := hd
          by_cases hlt : d.toInt < 0
          · have l40 : d ≤ 40 := by rw [fa_le, m40]; omega
            have l0 : ¬ 0 ≤ d := by rw [fa_le, pr_z]; omega
            refine ⟨-14, I, I, ?_, ?_, h'⟩
            · rw [q3, pr_sb, pr_oc1, if_neg e2, if_neg e3, if_neg b1, if_pos l40]
              unfold f_X9_sheet_j36
              rw [if_neg b1, if_neg l0]
            · rw [q4, pr_sb, if_neg (by decide), e4, pr_sb, if_neg (by decide), if_neg b0, if_pos l40]
              unfold f_X10_sheet_j34
              rw [if_neg b0, if_neg l0]
          · have l40 : ¬ d ≤ 40 := by rw [fa_le, m40]; omega
            refine ⟨-2, I, I, ?_, ?_, h'⟩
            · rw [q3, pr_sb, pr_oc1, if_neg e2, if_neg e3, if_neg b1, if_neg l40]
            · rw [q4, pr_sb, if_neg (by decide), e4, pr_sb, if_neg (by decide), if_neg b0, if_neg l40]
    · refine ⟨-2, I, I, ?_, ?_, h'⟩
      · rw [q3, pr_sb, pr_oc1]
        by_cases g : b < -1
        · rw [if_pos g]
        · rw [if_neg g, if_pos (by rcases e3 with z | z; exact absurd z g; exact z)]
      · rw [q4, pr_sb, if_neg (by decide), e4]; rfl
  · refine ⟨-2, I, I, ?_, ?_, h'⟩
    · rw [q3]; rfl
    · rw [q4]; rfl
