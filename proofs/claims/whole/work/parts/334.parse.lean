/-! THE CLASS READS A TEXT whose tokens are laid -/
section CX
variable {tk pl : Nat → Nat} {tc : Nat}
def cX (tk pl : Nat → Nat) (x : Int32) (I5 : rk_I) : Prop := match gp_t tk with
  | .inl f => x = nI (pl f) ∧ pl f ≤ 160
  | .inr c => x = -1 ∧ (c.1 ++ c.2.1 ++ c.2.2).length ≤ 160 ∧ I5 4 8 = nI (c.1 ++ c.2.1 ++ c.2.2).length ∧ (∀ i, i < (c.1 ++ c.2.1 ++ c.2.2).length → I5 8 i = nI ((c.1 ++ c.2.1 ++ c.2.2).getD i 0)) ∧ I5 9 0 = nI c.1.length ∧ I5 9 1 = nI (c.1.length + c.2.1.length) ∧ I5 9 2 = nI (c.1 ++ c.2.1 ++ c.2.2).length
theorem cx_outF {I : rk_I} : f_X2_read_l21 I (nI 3) = some (.inr (nI 3, I)) := by
  unfold f_X2_read_l21
  rw [if_pos (by decide)]
theorem cx_fromF {f j : Nat} {I : rk_I} : ∀ m, m + j = 3 → cF pl tc f I → ∃ I', rk_while (fun a9 => f_X2_read_l21 a9.2 a9.1) (nI j, I) = some (nI 3, I') ∧ cF pl tc f I' ∧ cU I I'
  := fun m => by
    induction m generalizing j I with
    | zero =>
      intro hj h
      have : j = 3 := by omega
      subst this
      exact ⟨I, rk_while_out cx_outF, h, fun _ _ _ _ _ => rfl⟩
    | succ m ih =>
      intro hj h
      obtain ⟨I1, e1, h1, r1⟩ := cr_partF (j := j) (by omega) h
      obtain ⟨I2, e2, h2, r2⟩ := ih (j := j + 1) (I := I1) (by omega) h1
      exact ⟨I2, by rw [rk_while_in (a' := (nI (j + 1), I1)) e1]; exact e2, h2, cU_t r1 r2⟩
theorem cx_read {I I1 : rk_I} (hs : f_X2_split I = some I1) (hT : cT tk pl tc I1) : ∃ x I5, f_X2_read I = some (x, I5) ∧ cU I1 I5 ∧ cX tk pl x I5 := by
  have h160 := hT.1
  have hr0 : cR I1 (rk_ui (rk_ui (rk_ui I1 4 5 0) 4 6 (-1)) 4 8 0) := cR_t (cR_u (Or.inl rfl)) (cR_t (cR_u (Or.inr (Or.inl rfl))) (cR_u (Or.inr (Or.inr rfl))))
  have h0 : cS tk pl tc 0 [] (rk_ui (rk_ui (rk_ui I1 4 5 0) 4 6 (-1)) 4 8 0) := ⟨cT_R hT hr0, by omega, by rw [ui_n (by omega), ui_n (by omega), ui_s]; rfl, by rw [ui_n (by omega), ui_s], by simp, by rw [ui_s]; rfl, fun i hi => by simp at hi⟩
  have fin : ∀ (f : Nat) (I4 : rk_I), rk_while (fun a9 => f_X2_read_l21 a9.2 a9.1) (nI 0, rk_ui (rk_ui (rk_ui I1 4 5 0) 4 6 (-1)) 4 8 0) = some (nI 3, I4) → cF pl tc f I4 → f_X2_read I = some (nI (pl f), I4) := fun f I4 e h => by
    unfold f_X2_read
    rw [hs, pr_sb, pr_sb, pr_sb, pr_sb, show (0 : Int32) = nI 0 from rfl, show (rk_ui (rk_ui (rk_ui I1 4 5 (nI 0)) 4 6 (-1)) 4 8 (nI 0)) = (rk_ui (rk_ui (rk_ui I1 4 5 0) 4 6 (-1)) 4 8 0) from rfl, e, cq_b2, cp_tokF h, pr_sb, if_neg (by decide), cp_failF h, pr_sb, h.2.2.1]
  unfold cX
  unfold gp_t
  have p0 := cr_part (j := 0) (by omega) h0 (by simp)
  cases hg0 : gp_p tk 0 0 with
  | inl f =>
    rw [hg0] at p0
    obtain ⟨I2, e2, h2, r2⟩ := p0
    obtain ⟨I3, e3, h3, r3⟩ := cx_fromF (j := 1) 2 rfl h2
    refine ⟨_, I3, fin f I3 (by rw [rk_while_in (a' := (nI 1, I2)) e2]; exact e3) h3, cU_t (cU_R hr0) (cU_t r2 r3), rfl, h3.2.1⟩
  | inr q0 =>
    rw [hg0] at p0
    obtain ⟨I2, e2, h2, l2, r2, n2, k2⟩ := p0
    rw [List.nil_append] at h2 l2 n2
    have p1 := cr_part (j := 1) (by omega) h2 l2
    simp only []
    cases hg1 : gp_p tk 1 q0.1 with
    | inl f =>
      rw [hg1] at p1
      obtain ⟨I3, e3, h3, r3⟩ := p1
      obtain ⟨I4, e4, h4, r4⟩ := cx_fromF (j := 2) 1 rfl h3
      refine ⟨_, I4, fin f I4 (by rw [rk_while_in (a' := (nI 1, I2)) e2, rk_while_in (a' := (nI 2, I3)) e3]; exact e4) h4, cU_t (cU_R hr0) (cU_t r2 (cU_t r3 r4)), rfl, h4.2.1⟩
    | inr q1 =>
      rw [hg1] at p1
      obtain ⟨I3, e3, h3, l3, r3, n3, k3⟩ := p1
      have p2 := cr_part (j := 2) (by omega) h3 l3
      simp only []
      cases hg2 : gp_p tk 2 q1.1 with
      | inl f =>
        rw [hg2] at p2
        obtain ⟨I4, e4, h4, r4⟩ := p2
        obtain ⟨I5, e5, h5, r5⟩ := cx_fromF (j := 3) 0 rfl h4
        refine ⟨_, I5, fin f I5 (by rw [rk_while_in (a' := (nI 1, I2)) e2, rk_while_in (a' := (nI 2, I3)) e3, rk_while_in (a' := (nI 3, I4)) e4]; exact e5) h5, cU_t (cU_R hr0) (cU_t r2 (cU_t r3 (cU_t r4 r5))), rfl, h5.2.1⟩
      | inr q2 =>
        rw [hg2] at p2
        obtain ⟨I4, e4, h4, l4, r4, n4, k4⟩ := p2
        simp only []
        have ew : rk_while (fun a9 => f_X2_read_l21 a9.2 a9.1) (nI 0, rk_ui (rk_ui (rk_ui I1 4 5 0) 4 6 (-1)) 4 8 0) = some (nI 3, I4) := by
          rw [rk_while_in (a' := (nI 1, I2)) e2, rk_while_in (a' := (nI 2, I3)) e3, rk_while_in (a' := (nI 3, I4)) e4]
          exact rk_while_out cx_outF
        have ew2 : f_X2_read I = (f_X2_token I4).bind fun x2 => if x2 = 20 then some ((I4 4 6), I4) else (f_X2_fail I4).bind fun I6 => some ((I6 4 6), I6) := by
          unfold f_X2_read
          rw [hs, pr_sb, pr_sb, pr_sb, pr_sb, show (0 : Int32) = nI 0 from rfl, show (rk_ui (rk_ui (rk_ui I1 4 5 (nI 0)) 4 6 (-1)) 4 8 (nI 0)) = (rk_ui (rk_ui (rk_ui I1 4 5 0) 4 6 (-1)) 4 8 0) from rfl, ew, cq_b2]
        rw [ew2, cp_tok h4, pr_sb]
        have hq := h4.2.1
        have hq2 := (hT.2.2.2 q2.1 hq).2.2.1
        have hU := cU_t (cU_R hr0) (cU_t r2 (cU_t r3 r4))
        by_cases h20 : tk q2.1 = 20
        · rw [if_pos (show nI (tk q2.1) = 20 by rw [h20]; rfl), if_pos h20]
          refine ⟨_, I4, rfl, hU, h4.2.2.2.1, h4.2.2.2.2.1, h4.2.2.2.2.2.1, h4.2.2.2.2.2.2, ?_, ?_, n4⟩
          · rw [k4 0 (by omega), k3 0 (by omega), n2]
          · rw [k4 1 (by omega), n3, List.length_append]
        · rw [if_neg (show ¬ nI (tk q2.1) = 20 from fun z => h20 ((nI_eq (b := 20) (by omega) (by omega)).mp z)), if_neg h20]
          obtain ⟨I5, e5, g5, r5⟩ := cp_fail h4
          rw [e5, pr_sb]
          exact ⟨_, I5, rfl, cU_t hU (cU_R r5), g5.2.2.1, g5.2.1⟩
end CX
