/-! AFTER A FAULT the parser runs straight through; the three parts -/
section CF
variable {tk pl : Nat → Nat} {tc f : Nat} {I : rk_I}
theorem cf_one (h : cF pl tc f I) (K : Nat) (x y : Int32) : f_gR (K + 1) 2 x y I = some I := by
  show f_X2_one (f_gR K) I x = _
  unfold f_X2_one
  rw [cp_tokF h, pr_sb, if_neg (by decide), if_pos (by decide), if_neg (by decide)]
  unfold f_X2_one_j59
  rw [if_neg (by decide), cp_failF h]
  rfl
theorem cf_phrase (h : cF pl tc f I) (K lv op : Nat) (h2 : lv ≠ 2) (h5 : lv < 5) (hr : f_gR K 0 (nI (lv + 1)) (nI op) I = some I) : f_gR (K + 1) 0 (nI lv) (nI op) I = some I := by
  show f_X2_phrase (f_gR K) I (nI lv) (nI op) = _
  unfold f_X2_phrase
  rw [if_neg (show ¬ nI lv = 2 from fun z => h2 ((nI_eq (b := 2) (by omega) (by omega)).mp z)), if_pos (show nI lv < 5 from nI_lt (b := 5) h5 (by omega)), nI_1, hr, pr_sb, cq_out (a := 0) (cs := []) (by omega) h]
  rfl
theorem cf_all (h : cF pl tc f I) : f_gR 60 0 0 0 I = some I := by
  have h4 : f_gR 55 0 (nI 4) (nI 0) I = some I := by
    refine cf_phrase h 54 4 0 (by omega) (by omega) ?_
    show f_X2_phrase (f_gR 53) I (nI 5) (nI 0) = _
    unfold f_X2_phrase
    rw [if_neg (by decide), if_neg (by decide), cf_one h 52]
    rfl
  have h3 : f_gR 56 0 (nI 3) (nI 0) I = some I := cf_phrase h 55 3 0 (by omega) (by omega) h4
  have h2 : f_gR 57 1 (nI 0) 0 I = some I := by
    show f_X2_denial (f_gR 56) I (nI 0) = _
    unfold f_X2_denial
    rw [cp_tokF h, pr_sb, if_neg (by decide), show (3 : Int32) = nI 3 from rfl, h3, pr_sb, cp_tokF h, pr_sb, if_neg (by decide), if_neg (by decide)]
  have h2' : f_gR 58 0 (nI 2) (nI 0) I = some I := by
    show f_X2_phrase (f_gR 57) I (nI 2) (nI 0) = _
    unfold f_X2_phrase
    rw [if_pos (by decide), h2]
    rfl
  have h1 : f_gR 59 0 (nI 1) (nI 0) I = some I := cf_phrase h 58 1 0 (by omega) (by omega) h2'
  exact cf_phrase h 59 0 0 (by omega) (by omega) h1
end CF
def cU (I I' : rk_I) : Prop := ∀ q i, q ≠ 8 → q ≠ 9 → ¬ (q = 4 ∧ (i = 5 ∨ i = 6 ∨ i = 8)) → I' q i = I q i
theorem cU_R {I I' : rk_I} (h : cR I I') : cU I I' := fun q i a _ b => h q i a b
theorem cU_t {I I' I'' : rk_I} (h : cU I I') (h2 : cU I' I'') : cU I I'' := fun q i a b c => (h2 q i a b c).trans (h q i a b c)
theorem cU_9 {I : rk_I} {i : Nat} {x : Int32} : cU I (rk_ui I 9 i x) := fun q j _ b _ => by rw [ui_o b]
section CR
variable {tk pl : Nat → Nat} {tc : Nat}
theorem cF_9 {f : Nat} {I : rk_I} (h : cF pl tc f I) (i : Nat) (x : Int32) : cF pl tc f (rk_ui I 9 i x) := by
  obtain ⟨h1, h2, h3, z, h4, h5⟩ := h
  exact ⟨h1, h2, by rw [ui_o (by omega)]; exact h3, z, h4, by rw [ui_o (by omega)]; exact h5⟩
theorem cS_9 {a : Nat} {cs : List Nat} {I : rk_I} (h : cS tk pl tc a cs I) (i : Nat) (x : Int32) : cS tk pl tc a cs (rk_ui I 9 i x) := by
  obtain ⟨⟨t1, t2, t3, t4⟩, h1, h2, h3, h4, h5, h6⟩ := h
  refine ⟨⟨t1, by rw [ui_o (by omega)]; exact t2, t3, fun j hj => ?_⟩, h1, by rw [ui_o (by omega)]; exact h2, by rw [ui_o (by omega)]; exact h3, h4, by rw [ui_o (by omega)]; exact h5, fun k hk => by rw [ui_o (by omega)]; exact h6 k hk⟩
  rw [ui_o (by omega), ui_o (by omega)]
  exact t4 j hj
/-- one part, from a fault -/
theorem cr_partF {f j : Nat} {I : rk_I} (hj : j < 3) (h : cF pl tc f I) : ∃ I', f_X2_read_l21 I (nI j) = some (.inl (nI (j + 1), I')) ∧ cF pl tc f I' ∧ cU I I' := by
  refine ⟨rk_ui I 9 j (I 4 8), ?_, cF_9 h _ _, cU_9⟩
  unfold f_X2_read_l21
  rw [if_neg (show ¬ (3 : Int32) ≤ nI j from nI_ge (b := 3) hj (by omega)), show (9 : Int32) + nI j = nI (9 + j) from nI_add (a := 9) (b := j), cp_takeF h (by omega) (by omega), pr_sb, cf_all h, pr_sb, show (59 : Int32) = nI 59 from rfl, cp_takeF h (by omega) (by omega), pr_sb, pr_wr (by omega) (by omega), pr_sb, nI_1]
/-- one part -/
theorem cr_part {j a : Nat} {cs : List Nat} {I : rk_I} (hj : j < 3) (h : cS tk pl tc a cs I) (hl : cs.length ≤ a) : match gp_p tk j a with
    | .inl f => ∃ I', f_X2_read_l21 I (nI j) = some (.inl (nI (j + 1), I')) ∧ cF pl tc f I' ∧ cU I I'
    | .inr q => ∃ I', f_X2_read_l21 I (nI j) = some (.inl (nI (j + 1), I')) ∧ cS tk pl tc q.1 (cs ++ q.2) I' ∧ (cs ++ q.2).length ≤ q.1 ∧ cU I I' ∧ I' 9 j = nI (cs ++ q.2).length ∧ ∀ i, i ≠ j → I' 9 i = I 9 i := by
  have hs : ¬ (3 : Int32) ≤ nI j := nI_ge (b := 3) hj (by omega)
  have tail : ∀ (x : Nat) (I1 I2 I3 : rk_I), f_X2_take I (nI (9 + j)) = some I1 → f_gR 60 0 0 0 I1 = some I2 → f_X2_take I2 59 = some I3 → f_X2_read_l21 I (nI j) = some (.inl (nI (j + 1), rk_ui I3 9 j (I3 4 8))) := fun _ I1 I2 I3 e1 e2 e3 => by
    unfold f_X2_read_l21
    rw [if_neg hs, show (9 : Int32) + nI j = nI (9 + j) from nI_add (a := 9) (b := j), e1, pr_sb, e2, pr_sb, e3, pr_sb, pr_wr (by omega) (by omega), pr_sb, nI_1]
  unfold gp_p
  rcases cp_take h (w := 9 + j) (by omega) (by omega) with ⟨t1, t2, I1, e1, g1, r1⟩ | ⟨t1, I1, e1, g1, r1⟩
  · rw [if_pos t1]
    have hh : cQ tk pl tc (a + 1) cs I1 (gp tk 36 0 0 (a + 1)) (f_gR 60 0 0 0 I1) := cq_main 36 0 0 (a + 1) cs I1 60 (by omega) (by omega) (by omega) (by decide) g1 (by omega)
    cases hg : gp tk 36 0 0 (a + 1) with
    | inl f =>
      rw [hg] at hh
      obtain ⟨I2, e2, g2, r2⟩ := hh
      have e3 := cp_takeF g2 (w := 59) (by omega) (by omega)
      exact ⟨_, tail 0 I1 I2 I2 e1 e2 e3, cF_9 g2 _ _, cU_t (cU_R (cR_t r1 r2)) cU_9⟩
    | inr q =>
      rw [hg] at hh
      obtain ⟨I2, e2, g2, r2, l2⟩ := hh
      show match (if tk q.1 = 59 then (Sum.inr (q.1 + 1, q.2) : gp_R) else Sum.inl q.1) with
        | .inl f => _
        | .inr q => _
      rcases cp_take g2 (w := 59) (by omega) (by omega) with ⟨u1, u2, I3, e3, g3, r3⟩ | ⟨u1, I3, e3, g3, r3⟩
      · rw [if_pos u1]
        have h8 : I3 4 8 = nI (cs ++ q.2).length := g3.2.2.2.2.2.1
        refine ⟨_, tail 0 I1 I2 I3 e1 e2 e3, cS_9 g3 _ _, ?_, cU_t (cU_R (cR_t r1 (cR_t r2 r3))) cU_9, ?_, fun i hi => ?_⟩
        · rw [List.length_append]
          show cs.length + q.2.length ≤ q.1 + 1
          omega
        · rw [ui_s]; exact h8
        · rw [ui_n hi]
          exact cR_t r1 (cR_t r2 r3) 9 i (by omega) (by omega)
      · rw [if_neg u1]
        exact ⟨_, tail 0 I1 I2 I3 e1 e2 e3, cF_9 g3 _ _, cU_t (cU_R (cR_t r1 (cR_t r2 r3))) cU_9⟩
  · rw [if_neg t1]
    exact ⟨_, tail 0 I1 I1 I1 e1 (cf_all g1) (cp_takeF g1 (w := 59) (by omega) (by omega)), cF_9 g1 _ _, cU_t (cU_R r1) cU_9⟩
end CR
