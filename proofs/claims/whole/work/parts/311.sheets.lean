theorem sh_wr {n : Nat} {S : rk_Sh} {I : rk_I} {R : rk_R} (h : iv n S I R) {q i : Nat} (hq : q < 4) (hi : i < 40) (x : Int32) : iv n S (rk_ui (rk_ui I (21 + 2 * q) i x) 56 (40 * q + i) x) R := by
  have h' := h
  obtain ⟨c, s, t, r, oc, os, ot, sv, cv, h1, h2, h3, h4, h5, h6, h7, h8, h9, h10, h11⟩ := h
  refine iv_FH h' (fun k j _ b1 b2 b3 b4 b5 b6 => ?_) (mF h9 ?_ ?_ ?_ ?_) (fun p hp => ?_) (kR_r _)
  · rw [ui_o (by omega), ui_o (by omega)]
  · rw [ui_o (by omega), ui_o (by omega)]
  · rw [ui_o (by omega), ui_o (by omega)]
  · rw [ui_o (by omega), ui_o (by omega)]
  · rw [ui_o (by omega), ui_o (by omega)]
  · have g := h10 p hp
    rcases g with ⟨g1, g2⟩ | ⟨g1, w, v, w1, w2, w3, w4, w5, w6, w7⟩
    · left
      simp (disch := omega) only [ui_o]
      exact ⟨g1, g2⟩
    · right
      refine ⟨?_, w, v, w1, w2, ?_, ?_, ?_, ?_, fun k hk => ?_⟩
      · simp (disch := omega) only [ui_o]; exact g1
      · simp (disch := omega) only [ui_o]; exact w3
      · simp (disch := omega) only [ui_o]; exact w4
      · simp (disch := omega) only [ui_o]; exact w5
      · simp (disch := omega) only [ui_o]; exact w6
      · rw [ui_o (by omega : 21 + 2 * p ≠ 56)]
        by_cases hpq : p = q
        · subst hpq
          by_cases hk2 : k = i
          · subst hk2
            rw [ui_s, ui_s]
          · rw [ui_n hk2, ui_n (by omega), ui_o (by omega)]
            exact w7 k hk
        · rw [ui_o (by omega), ui_n (by omega), ui_o (by omega)]
          exact w7 k hk
theorem sh_m1 {w : Nat} (h : w < 3) : ¬ nI w = -1 := pr_n1 (by omega)
theorem ck_cell {n : Nat} {S : rk_Sh} {I : rk_I} {R : rk_R} (h : iv n S I R) (a b d : Int32) : ∃ v I1 I2, f_X9_cell S I R a b d = some (v, I1) ∧ f_X10_cell I1 a b d = some (v, I2) ∧ iv n S I2 R := by
  have h' := h
  obtain ⟨c, s, t, r, oc, os, ot, sv, cv, h1, h2, h3, h4, h5, h6, h7, h8, h9, h10, h11⟩ := h
  unfold f_X9_cell f_X10_cell
  rcases pg_sheet h1 a with ⟨q, q1, rfl, q3, q4⟩ | ⟨q3, q4⟩
  · have hC := sh_C h1 q1
    have ck : rk_ck S (20 + 2 * q) 6 3 = some () := pr_ck hC.1
    rcases h10 q q1 with ⟨g1, g2⟩ | ⟨g1, w, m, w1, w2, w3, w4, w5, w6, w7⟩
    · refine ⟨-11, I, I, ?_, ?_, h'⟩
      · rw [q3, pr_sb, pr_oc1, ck, pr_sb, if_pos g1]
      · rw [q4, pr_sb, if_neg (by decide), pr_rd q1 (by omega), g2]; rfl
    · have hm : (nI m).toInt = (m : Int) := nI_toInt (by omega)
      have hh : (nI m - 1).toInt64.toInt = (m : Int) - 1 := by rw [Int32.toInt_toInt64, pr_toM (by omega)]
      have e1 : ¬ I (20 + 2 * q) 1 = -1 := by rw [w3]; exact sh_m1 w1
      rcases pr_inN (x := b) (n := m) (by omega) hh with ⟨j, j1, rfl, j3⟩ | ⟨j1, j3⟩
      · let V : Int32 := if w = 0 then Int8.toInt32 (Int32.toInt8 d) else if w = 1 then Int16.toInt32 (Int32.toInt16 d) else d
        have eV : f_X6_put S I R (20 + 2 * q) (nI j) d = some (rk_ui I (21 + 2 * q) j V) := by
          unfold f_X6_put
          rw [pr_sb, w3, hC.2.2.2]
          rcases (by omega : w = 0 ∨ w = 1 ∨ w = 2) with rfl | rfl | rfl
          · rw [if_pos (by decide), pr_sb, pr_wrD hC.2.1 (by omega) (by omega)]; rfl
          · rw [if_neg (by decide), if_pos (by decide), pr_sb, pr_wrD hC.2.1 (by omega) (by omega)]; rfl
          · rw [if_neg (by decide), if_neg (by decide), pr_sb, pr_wrD hC.2.1 (by omega) (by omega)]; rfl
        refine ⟨1, rk_ui I (21 + 2 * q) j V, rk_ui (rk_ui I (21 + 2 * q) j V) 56 (40 * q + j) V, ?_, ?_, sh_wr h' q1 (by omega) V⟩
        · rw [q3, pr_sb, pr_oc1, ck, pr_sb, if_neg e1, if_neg (nI_pos (by omega)), w5, if_pos (nI_lt j1 (by omega)), eV]; rfl
        · have e40 : (40 : Int32) * nI q + nI j = nI (40 * q + j) := by rw [show (40 : Int32) = nI 40 from rfl, pk_mul, nI_add]
          rw [q4, pr_sb, if_neg (by decide), pr_rd q1 (by omega), ui_o (by omega), g1, pr_sb, if_neg (by decide), pr_rd q1 (by omega), ui_o (by omega), w6, pr_sb, j3, pr_sb, if_neg (by decide), pr_rd q1 (by omega), ui_o (by omega), w4, pr_sb, pr_sb, e40, pr_wr (by omega) (by omega), pr_wr (by omega) (by omega), pr_wr (by omega) (by omega)]
          rcases (by omega : w = 0 ∨ w = 1 ∨ w = 2) with rfl | rfl | rfl
          · rw [if_pos (by decide)]; rfl
          · rw [if_neg (by decide), if_pos (by decide)]; rfl
          · rw [if_neg (by decide), if_neg (by decide)]; rfl
      · refine ⟨-12, I, I, ?_, ?_, h'⟩
        · rw [q3, pr_sb, pr_oc1, ck, pr_sb, if_neg e1, w5]
          by_cases h0 : b < 0
          · rw [if_pos h0]
          · rw [if_neg h0, if_neg]
            rw [fa_lt, pr_z] at h0
            rw [fa_lt, hm]
            omega
        · rw [q4, pr_sb, if_neg (by decide), pr_rd q1 (by omega), g1, pr_sb, if_neg (by decide), pr_rd q1 (by omega), w6, pr_sb, j3]; rfl
  · refine ⟨-2, I, I, ?_, ?_, h'⟩
    · rw [q3]; rfl
    · rw [q4]; rfl
/-! copy: a cell's row from a place on -/
def cp_F (I K : rk_I) (o t a z : Nat) : rk_I := fun p x => if p = o ∧ a ≤ x ∧ x < z then I o (x + t - 400) else K p x
def cp_D (I : rk_I) (s t a z : Nat) : rk_I := fun p x => if p = 56 ∧ a ≤ x ∧ x < z then I 56 (s + (x - t)) else I p x
theorem cp_st {I : rk_I} {s t a z : Nat} (hz : t ≤ z) : rk_ui (cp_D I s t a z) 56 z (I 56 (s + (z - t))) = cp_D I s t (min a z) (z + 1) ∨ z < a := by
  by_cases h : z < a
  · exact Or.inr h
  · left
    funext p x
    by_cases hp : p = 56
    · subst hp
      by_cases hx : x = z
      · subst hx
        rw [ui_s]
        unfold cp_D
        rw [if_pos (by omega)]
      · rw [ui_n hx]
        unfold cp_D
        by_cases hc : a ≤ x ∧ x < z
        · rw [if_pos ⟨rfl, hc⟩, if_pos (by omega)]
        · rw [if_neg (fun w => hc w.2), if_neg (by omega)]
    · rw [ui_o hp]
      unfold cp_D
      rw [if_neg (fun w => hp w.1), if_neg (fun w => hp w.1)]
theorem cp_up {I : rk_I} {s t a z : Nat} (h : a < z) (ht : t ≤ a) : rk_ui (cp_D I s t (a + 1) z) 56 a (I 56 (s + (a - t))) = cp_D I s t a z := by
  funext p x
  by_cases hp : p = 56
  · subst hp
    by_cases hx : x = a
    · subst hx
      rw [ui_s]
      unfold cp_D
      rw [if_pos (by omega)]
    · rw [ui_n hx]
      unfold cp_D
      by_cases hc : a + 1 ≤ x ∧ x < z
      · rw [if_pos ⟨rfl, hc⟩, if_pos (by omega)]
      · rw [if_neg (fun w => hc w.2), if_neg (by omega)]
  · rw [ui_o hp]
    unfold cp_D
    rw [if_neg (fun w => hp w.1), if_neg (fun w => hp w.1)]
theorem cp_0 {I : rk_I} {s t a : Nat} : cp_D I s t a a = I := by
  funext p x
  unfold cp_D
  rw [if_neg (by omega)]
theorem cp_run {I : rk_I} {q p i j n : Nat} (hq : q < 4) (hp : p < 4) (h1 : i + n ≤ 40) (h2 : j + n ≤ 40) (u : Int32) (hu : (u = 0 ∧ (q ≠ p ∨ j ≤ i)) ∨ (u = 1 ∧ q = p ∧ i < j)) : f_X10_copy_j116 I (nI q) (nI i) (nI p) (nI j) (nI n) u = some (nI n, cp_D I (40 * q + i) (40 * p + j) (40 * p + j) (40 * p + j + n)) := by
  have eq1 : (40 : Int32) * nI q + nI i = nI (40 * q + i) := by rw [show (40 : Int32) = nI 40 from rfl, pk_mul, nI_add]
  have ep1 : (40 : Int32) * nI p + nI j = nI (40 * p + j) := by rw [show (40 : Int32) = nI 40 from rfl, pk_mul, nI_add]
  unfold f_X10_copy_j116
  rcases hu with ⟨rfl, hu⟩ | ⟨rfl, rfl, hu⟩
  · have z : ((0 : Int32), I) = (fun k => (nI k, cp_D I (40 * q + i) (40 * p + j) (40 * p + j) (40 * p + j + k))) 0 := by
      show _ = (nI 0, cp_D I (40 * q + i) (40 * p + j) (40 * p + j) (40 * p + j))
      rw [cp_0]
      rfl
    rw [z, pr_run (f := fun a9 : Int32 × rk_I => f_X10_copy_l121 a9.2 (nI q) (nI i) (nI p) (nI j) (nI n) 0 a9.1) (fun k => (nI k, cp_D I (40 * q + i) (40 * p + j) (40 * p + j) (40 * p + j + k))) n (b := (nI n, cp_D I (40 * q + i) (40 * p + j) (40 * p + j) (40 * p + j + n)))]
    · rfl
    · intro k hk
      show f_X10_copy_l121 (cp_D I (40 * q + i) (40 * p + j) (40 * p + j) (40 * p + j + k)) (nI q) (nI i) (nI p) (nI j) (nI n) 0 (nI k) = _
      unfold f_X10_copy_l121 f_X10_copy_j145
      have er : cp_D I (40 * q + i) (40 * p + j) (40 * p + j) (40 * p + j + k) 56 (40 * q + i + k) = I 56 (40 * q + i + (40 * p + j + k - (40 * p + j))) := by
        unfold cp_D
        rw [if_neg (by omega), show 40 * p + j + k - (40 * p + j) = k by omega]
      have es := (cp_st (I := I) (s := 40 * q + i) (t := 40 * p + j) (a := 40 * p + j) (z := 40 * p + j + k) (by omega)).resolve_right (by omega)
      rw [if_neg (nI_ge hk (by omega)), if_pos rfl, eq1, ep1, nI_add, nI_add, pr_rd (by omega) (by omega), er, pr_sb, pr_wr (by omega) (by omega), pr_sb, nI_1, es, show min (40 * p + j) (40 * p + j + k) = 40 * p + j by omega]
      rfl
    · show f_X10_copy_l121 (cp_D I (40 * q + i) (40 * p + j) (40 * p + j) (40 * p + j + n)) (nI q) (nI i) (nI p) (nI j) (nI n) 0 (nI n) = _
      unfold f_X10_copy_l121
      rw [if_pos (nI_le (Nat.le_refl _) (by omega))]
  · have z : ((0 : Int32), I) = (fun k => (nI k, cp_D I (40 * q + i) (40 * q + j) (40 * q + j + (n - k)) (40 * q + j + n))) 0 := by
      show _ = (nI 0, cp_D I (40 * q + i) (40 * q + j) (40 * q + j + n) (40 * q + j + n))
      rw [cp_0]
      rfl
    rw [z, pr_run (f := fun a9 : Int32 × rk_I => f_X10_copy_l121 a9.2 (nI q) (nI i) (nI q) (nI j) (nI n) 1 a9.1) (fun k => (nI k, cp_D I (40 * q + i) (40 * q + j) (40 * q + j + (n - k)) (40 * q + j + n))) n (b := (nI n, cp_D I (40 * q + i) (40 * q + j) (40 * q + j) (40 * q + j + n)))]
    · rfl
    · intro k hk
      show f_X10_copy_l121 (cp_D I (40 * q + i) (40 * q + j) (40 * q + j + (n - k)) (40 * q + j + n)) (nI q) (nI i) (nI q) (nI j) (nI n) 1 (nI k) = _
      unfold f_X10_copy_l121 f_X10_copy_j145
      obtain ⟨m, hm⟩ : ∃ m, n = m + 1 + k := ⟨n - 1 - k, by omega⟩
      have e1 : nI n - 1 - nI k = nI m := by rw [hm, show m + 1 + k = (m + k) + 1 by omega, nI_pred, pk_sub (by omega), show m + k - k = m by omega]
      have er : cp_D I (40 * q + i) (40 * q + j) (40 * q + j + (n - k)) (40 * q + j + n) 56 (40 * q + i + m) = I 56 (40 * q + i + (40 * q + j + m - (40 * q + j))) := by
        unfold cp_D
        rw [if_neg (by omega), show 40 * q + j + m - (40 * q + j) = m by omega]
      have es := cp_up (I := I) (s := 40 * q + i) (t := 40 * q + j) (a := 40 * q + j + m) (z := 40 * q + j + n) (by omega) (by omega)
      have en : 40 * q + j + (n - k) = 40 * q + j + m + 1 := by omega
      have en2 : n - (k + 1) = m := by omega
      rw [if_neg (nI_ge hk (by omega)), if_neg (by decide), eq1, ep1, e1, nI_add, nI_add, pr_rd (by omega) (by omega), er, pr_sb, pr_wr (by omega) (by omega), pr_sb, nI_1, en, es]
      simp only [en2]
    · show f_X10_copy_l121 (cp_D I (40 * q + i) (40 * q + j) (40 * q + j + (n - n)) (40 * q + j + n)) (nI q) (nI i) (nI q) (nI j) (nI n) 1 (nI n) = _
      unfold f_X10_copy_l121
      rw [if_pos (nI_le (Nat.le_refl _) (by omega)), Nat.sub_self]
      rfl
