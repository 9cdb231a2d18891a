set_option maxHeartbeats 4000000 in
theorem cm_sale {c s : Nat} {sv cv : pv_V} {I : rk_I} (hB : pv_B c s sv cv) (hY : pv_Y c s sv cv I) (a b d e f : Int32) : (¬ sl_ok c a b d e f ∧ f_X10_sale I a b d e f = some (-2, I)) ∨ (sl_ok c a b d e f ∧ s = 24 ∧ f_X10_sale I a b d e f = some (-4, I)) ∨ (sl_ok c a b d e f ∧ s < 24 ∧ ∃ I1, f_X10_sale I a b d e f = some (nI s, I1) ∧ pv_Y c (s + 1) (sl_v sv s a b d e f) cv I1 ∧ (∀ q, q ≠ 31 → (q < 38 ∨ 47 ≤ q) → I1 q = I q) ∧ ∀ i, i ≠ 20 → I1 31 i = I 31 i) := by
  have hc := hB.1
  have hs := hB.2.1
  have isC : ∀ x : Int32, f_X10_isCargo I x = (if 0 ≤ x.toInt ∧ x.toInt ≤ (c : Int) - 1 then some 1 else some 0) := fun x => by
    unfold f_X10_isCargo
    have h0 : (0 : Int64).toInt = 0 := by decide
    have hh : (nI c - 1).toInt64.toInt = (c : Int) - 1 := by rw [Int32.toInt_toInt64, pr_toM (by omega)]
    rw [hY.1, pr_inI h0 hh, pr_sb]
    split
    · exact pr_bl1
    · exact pr_bl0
  by_cases hok : sl_ok c a b d e f
  · right
    have hok' := hok
    obtain ⟨vk, w, va, vp, vh, rfl, rfl, rfl, rfl, rfl, k1, w1, hcg, heq, a1, a2, p1, h1⟩ := sl_num hc hok
    obtain ⟨q1, q2, -, -, q5, q6, q7⟩ := hok
    have d100 : nI w / 100 = nI (w / 100) := pr_dv (d := 100) w1 (by omega) (by omega)
    have d10 : nI w / 10 = nI (w / 10) := pr_dv (d := 10) w1 (by omega) (by omega)
    have md1 : rk_md (nI (w / 10)) 10 = nI (w / 10 % 10) := pr_md (d := 10) (by omega) (by omega) (by omega)
    have md2 : rk_md (nI w) 10 = nI (w % 10) := pr_md (d := 10) w1 (by omega) (by omega)
    have hne2 : ¬ nI (w / 10 % 10) = nI (w % 10) := fun z => heq ((nI_eq (by omega) (by omega)).mp z)
    have k4 : f_X10_in (nI vk).toInt64 0 5 = some 1 := by
      rcases pg_kind (nI vk) with ⟨j, -, -, -, z⟩ | ⟨-, z, -⟩
      · exact z
      · rw [z] at q1; cases q1
    have a4 : f_X10_in (nI va).toInt64 1 999 = some 1 := by
      rcases pg_amount (nI va) with ⟨j, -, -, -, -, z⟩ | ⟨z, -⟩
      · exact z
      · rw [z] at q5; cases q5
    have q4 : f_X10_isHour (nI vh) = some 1 := by
      rcases pg_hour (nI vh) with ⟨j, -, -, -, z⟩ | ⟨-, z, -⟩
      · exact z
      · rw [z] at q7; cases q7
    have g4 : f_X10_isCargo I (nI (w / 100)) = some 1 := by
      rw [isC, nI_toInt (by omega), if_pos (by omega)]
    have m24 : (24 : Int32).toInt = 24 := by decide
    by_cases hlt : s < 24
    · right
      have r2 : ¬ nI s = 24 := by rw [fa_eq, nI_toInt (by omega), m24]; omega
      obtain ⟨v, v0, v1, v2, v3, v4, v5, v6, v7, v8⟩ := sl_val (sv := sv) (s := s) (k := s) k1 w1 a2 p1 h1
      refine ⟨hok', hlt, rk_ui (rk_ui (rk_ui (rk_ui (rk_ui (rk_ui (rk_ui (rk_ui (rk_ui (rk_ui I 38 s (nI vk)) 39 s (nI (w / 100))) 40 s (nI (w / 10 % 10))) 41 s (nI (w % 10))) 42 s (nI va)) 43 s (nI vp)) 44 s (nI vh)) 45 s (-1)) 46 s 0) 31 20 (nI (s + 1)), ?_, ⟨?_, ?_, fun k hk => ?_, fun k hk => ?_⟩, fun q a b => ?_, fun i hi => ?_⟩
      · unfold f_X10_sale
        have u : ∀ (I' : rk_I) (k : Nat) (x : Int32), I' 31 20 = nI s → k ≠ 31 → rk_ui I' k s x 31 20 = nI s := fun I' k x a b => by rw [ui_o (Ne.symm b)]; exact a
        have hy20 := hY.2.1
        rw [d100, d10, md1, md2, k4, pr_sb, if_neg (by decide), if_neg q2, g4, pr_sb, if_neg (by decide), if_neg hne2, a4, pr_sb, if_neg (by decide), q6, pr_sb, if_neg (by decide), q4, pr_sb, if_neg (by decide), hy20, if_neg r2, pr_wr hlt (by omega), pr_sb]
        have u1 := u _ 38 (nI vk) hy20 (by omega)
        rw [u1, pr_wr hlt (by omega), pr_sb]
        have u2 := u _ 39 (nI (w / 100)) u1 (by omega)
        rw [u2, pr_wr hlt (by omega), pr_sb]
        have u3 := u _ 40 (nI (w / 10 % 10)) u2 (by omega)
        rw [u3, pr_wr hlt (by omega), pr_sb]
        have u4 := u _ 41 (nI (w % 10)) u3 (by omega)
        rw [u4, pr_wr hlt (by omega), pr_sb]
        have u5 := u _ 42 (nI va) u4 (by omega)
        rw [u5, pr_wr hlt (by omega), pr_sb]
        have u6 := u _ 43 (nI vp) u5 (by omega)
        rw [u6, pr_wr hlt (by omega), pr_sb]
        have u7 := u _ 44 (nI vh) u6 (by omega)
        rw [u7, pr_wr hlt (by omega), pr_sb]
        have u8 := u _ 45 (-1) u7 (by omega)
        rw [u8, pr_wr hlt (by omega), pr_sb]
        have u9 := u _ 46 0 u8 (by omega)
        rw [u9, pr_sb, nI_1, ui_s, nI_pred]
      · simp (disch := omega) only [ui_o, ui_n]
        exact hY.1
      · rw [ui_s]
      · by_cases hkc : k = s
        · subst hkc
          rw [v0, v1, v2, v3, v4, v5, v6, v7, v8]
          simp (disch := omega) only [ui_o, ui_s]
          exact ⟨trivial, trivial, trivial, trivial, trivial, trivial, trivial, pr_m1, rfl⟩
        · obtain ⟨v', -⟩ := sl_val (sv := sv) (s := s) (k := k) k1 w1 a2 p1 h1
          rw [v' _ hkc, v' _ hkc, v' _ hkc, v' _ hkc, v' _ hkc, v' _ hkc, v' _ hkc, v' _ hkc, v' _ hkc]
          simp (disch := omega) only [ui_o, ui_n]
          exact hY.2.2.1 k (by omega)
      · simp (disch := omega) only [ui_o]
        exact hY.2.2.2 k hk
      · simp (disch := omega) only [ui_o]
      · simp (disch := omega) only [ui_o, ui_n]
    · left
      have r2 : nI s = 24 := by rw [fa_eq, nI_toInt (by omega), m24]; omega
      refine ⟨hok', by omega, ?_⟩
      unfold f_X10_sale
      rw [d100, d10, md1, md2, k4, pr_sb, if_neg (by decide), if_neg q2, g4, pr_sb, if_neg (by decide), if_neg hne2, a4, pr_sb, if_neg (by decide), q6, pr_sb, if_neg (by decide), q4, pr_sb, if_neg (by decide), hY.2.1, if_pos r2]
  · left
    refine ⟨hok, ?_⟩
    unfold f_X10_sale
    rcases pg_kind a with ⟨vk, k1, rfl, k3, k4⟩ | ⟨-, k3, k4⟩
    · rw [k4, pr_sb, if_neg (by decide)]
      by_cases hb : b < 0
      · rw [if_pos hb]
      · rw [if_neg hb]
        by_cases hcg : ∃ g, g < c ∧ b / 100 = nI g
        · obtain ⟨g, g1, g2⟩ := hcg
          rw [g2, isC, nI_toInt (by omega), if_pos (by omega), pr_sb, if_neg (by decide)]
          by_cases hq : rk_md (b / 10) 10 = rk_md b 10
          · rw [if_pos hq]
          · rw [if_neg hq]
            rcases pg_amount d with ⟨va, a1, a2, rfl, a3, a4⟩ | ⟨a3, a4⟩
            · rw [a4, pr_sb, if_neg (by decide)]
              rcases pg_price e with ⟨vp, p1, rfl, p3, -, -⟩ | ⟨p3, -⟩
              · rw [p3, pr_sb, if_neg (by decide)]
                rcases pg_hour f with ⟨vh, h1, rfl, h3, h4⟩ | ⟨-, h3, h4⟩
                · exact absurd ⟨k3, hb, ⟨g, g1, g2⟩, hq, a3, p3, h3⟩ hok
                · rw [h4]; rfl
              · rw [p3]; rfl
            · rw [a4]; rfl
        · have : f_X10_isCargo I (b / 100) = some 0 := by
            rw [isC, if_neg]
            intro hz
            apply hcg
            rcases pr_tri (b / 100) c (by omega) with ⟨j, j1, j2⟩ | hj
            · exact ⟨j, j1, j2⟩
            · omega
          rw [this]; rfl
    · rw [k4]; rfl
/-- the view after some rows of a sheet were taken for sales: how many came, how many sales there are, the view -/
noncomputable def sl_run (c : Nat) (X : Nat → Int32) (s : Nat) (sv : pv_V) : Nat → Nat × Nat × pv_V
  | 0 => (0, s, sv)
  | k + 1 => @ite _ (sl_ok c (X (5 * k)) (X (5 * k + 1)) (X (5 * k + 2)) (X (5 * k + 3)) (X (5 * k + 4)) ∧ (sl_run c X s sv k).2.1 < 24) (Classical.propDecidable _) ((sl_run c X s sv k).1 + 1, (sl_run c X s sv k).2.1 + 1, sl_v (sl_run c X s sv k).2.2 (sl_run c X s sv k).2.1 (X (5 * k)) (X (5 * k + 1)) (X (5 * k + 2)) (X (5 * k + 3)) (X (5 * k + 4))) (sl_run c X s sv k)
theorem sl_run1 {c : Nat} {X : Nat → Int32} {s : Nat} {sv : pv_V} {k : Nat} (h : sl_ok c (X (5 * k)) (X (5 * k + 1)) (X (5 * k + 2)) (X (5 * k + 3)) (X (5 * k + 4)) ∧ (sl_run c X s sv k).2.1 < 24) : sl_run c X s sv (k + 1) = ((sl_run c X s sv k).1 + 1, (sl_run c X s sv k).2.1 + 1, sl_v (sl_run c X s sv k).2.2 (sl_run c X s sv k).2.1 (X (5 * k)) (X (5 * k + 1)) (X (5 * k + 2)) (X (5 * k + 3)) (X (5 * k + 4))) := if_pos h
theorem sl_run0 {c : Nat} {X : Nat → Int32} {s : Nat} {sv : pv_V} {k : Nat} (h : ¬ (sl_ok c (X (5 * k)) (X (5 * k + 1)) (X (5 * k + 2)) (X (5 * k + 3)) (X (5 * k + 4)) ∧ (sl_run c X s sv k).2.1 < 24)) : sl_run c X s sv (k + 1) = sl_run c X s sv k := if_neg h
theorem sl_runB {c s : Nat} {sv cv : pv_V} {X : Nat → Int32} (h : pv_B c s sv cv) : ∀ k, pv_B c (sl_run c X s sv k).2.1 (sl_run c X s sv k).2.2 cv ∧ (sl_run c X s sv k).1 ≤ k ∧ (sl_run c X s sv k).2.1 = s + (sl_run c X s sv k).1 := by
  intro k
  induction k with
  | zero => exact ⟨h, Nat.le_refl _, rfl⟩
  | succ k ih =>
    by_cases hc : sl_ok c (X (5 * k)) (X (5 * k + 1)) (X (5 * k + 2)) (X (5 * k + 3)) (X (5 * k + 4)) ∧ (sl_run c X s sv k).2.1 < 24
    · rw [sl_run1 hc]
      exact ⟨sl_B ih.1 hc.2 hc.1, by show (sl_run c X s sv k).1 + 1 ≤ k + 1; omega, by show (sl_run c X s sv k).2.1 + 1 = s + ((sl_run c X s sv k).1 + 1); omega⟩
    · rw [sl_run0 hc]
      exact ⟨ih.1, by omega, ih.2.2⟩
