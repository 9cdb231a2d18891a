/-! THE PARSER'S RECURSION, ALL OF IT -/
def cd : Nat → Nat
  | 0 => 8
  | 1 => 7
  | 2 => 5
  | 3 => 4
  | 4 => 3
  | _ => 1
def ce : Nat → Nat
  | 0 => 8
  | 1 => 7
  | 2 => 6
  | 3 => 4
  | 4 => 3
  | _ => 2
noncomputable def cE (K lv op : Nat) (I : rk_I) : Option rk_I := if lv = 2 then f_gR K 1 (nI op) 0 I else if lv = 5 then f_gR K 2 (nI op) 0 I else f_gR K 0 (nI lv) (nI op) I
theorem cE_p (K lv op : Nat) (hlv : lv ≤ 5) (I : rk_I) : f_gR (K + 1) 0 (nI lv) (nI op) I = cE (if lv = 2 ∨ lv = 5 then K else K + 1) lv op I := by
  unfold cE
  by_cases h2 : lv = 2
  · subst h2
    rw [if_pos rfl, if_pos (Or.inl rfl)]
    show f_X2_phrase (f_gR K) I (nI 2) (nI op) = _
    unfold f_X2_phrase
    rw [if_pos (by decide)]
    cases f_gR K 1 (nI op) 0 I <;> rfl
  · rw [if_neg h2]
    by_cases h5 : lv = 5
    · subst h5
      rw [if_pos rfl, if_pos (Or.inr rfl)]
      show f_X2_phrase (f_gR K) I (nI 5) (nI op) = _
      unfold f_X2_phrase
      rw [if_neg (by decide), if_neg (by decide)]
      cases f_gR K 2 (nI op) 0 I <;> rfl
    · rw [if_neg h5, if_neg (by omega)]
section CM
variable {tk pl : Nat → Nat} {tc : Nat}
theorem cq_pre {a : Nat} {cs : List Nat} {I I1 : rk_I} {r : gp_R} {o : Option rk_I} (hr : cR I I1) (h : cQ tk pl tc a cs I1 r o) : cQ tk pl tc a cs I r o := by
  cases r with
  | inl f =>
    obtain ⟨I2, h1, h2, h3⟩ := h
    exact ⟨I2, h1, h2, cR_t hr h3⟩
  | inr q =>
    obtain ⟨I2, h1, h2, h3, h4⟩ := h
    exact ⟨I2, h1, h2, cR_t hr h3, h4⟩
theorem cq_b {a a0 : Nat} {cs bs : List Nat} {I I0 : rk_I} {r : gp_R} {o : Option rk_I} {f : Nat → List Nat → gp_R} {g : rk_I → Option rk_I} (h : cQ tk pl tc a cs I r o) (hr : cR I0 I) (hF : ∀ x I', cF pl tc x I' → ∃ I'', g I' = some I'' ∧ cF pl tc x I'' ∧ cR I' I'') (hS : ∀ q c I', cS tk pl tc q (cs ++ c) I' → a + c.length ≤ q → cQ tk pl tc a0 bs I' (f q c) (g I')) : cQ tk pl tc a0 bs I0 (gp_b r f) (o.bind g) := by
  cases r with
  | inl x =>
    obtain ⟨I1, h1, h2, h3⟩ := h
    obtain ⟨I2, g1, g2, g3⟩ := hF x I1 h2
    rw [h1]
    exact ⟨I2, g1, g2, cR_t hr (cR_t h3 g3)⟩
  | inr q =>
    obtain ⟨I1, h1, h2, h3, h4⟩ := h
    rw [h1]
    exact cq_pre (cR_t hr h3) (hS q.1 q.2 I1 h2 h4)
theorem cq_emit {a a' : Nat} {cs c : List Nat} {I : rk_I} (x : Nat) (h : cS tk pl tc a' (cs ++ c) I) (hl : cs.length ≤ a) (h2 : a + c.length + 1 ≤ a') : cQ tk pl tc a cs I (.inr (a', c ++ [x])) (f_X2_emit I (nI x)) := by
  have := h.2.1
  have := h.1.1
  obtain ⟨I1, e1, g1, r1⟩ := cp_emit h (by rw [List.length_append]; omega) x
  refine ⟨I1, e1, ?_, r1, ?_⟩
  · rw [← List.append_assoc]; exact g1
  · rw [List.length_append]; exact h2
theorem cq_lt {a : Nat} {cs : List Nat} {I : rk_I} (h : cS tk pl tc a cs I) (h2 : tk a ≠ 20) : a < tc := by
  rcases Nat.lt_or_ge a tc with g | g
  · exact g
  · have : a = tc := by have := h.2.1; omega
    exact absurd (this ▸ h.1.2.2.1) h2
theorem cq_b2 {α β γ : Type} (x : α) (y : β) (f : α → β → Option γ) : rk_b2 (some (x, y)) f = f x y := rfl
theorem cq_id (o : Option rk_I) : (o.bind fun I4 => some I4) = o := by cases o <;> rfl
theorem cq_main : ∀ (k lv op a : Nat) (cs : List Nat) (I : rk_I) (K : Nat), lv ≤ 5 → op ≤ 5 → 6 * (5 - op) + (6 - lv) ≤ k → 8 * (5 - op) + cd lv ≤ K → cS tk pl tc a cs I → cs.length ≤ a → cQ tk pl tc a cs I (gp tk k lv op a) (cE K lv op I) := by
  intro k
  induction k with
  | zero =>
    intro lv op a cs I K h1 h2 h3
    omega
  | succ k ih =>
    have HP : ∀ (lv op a : Nat) (cs : List Nat) (I : rk_I) (K : Nat), lv ≤ 5 → op ≤ 5 → 6 * (5 - op) + (6 - lv) ≤ k → 8 * (5 - op) + ce lv ≤ K → cS tk pl tc a cs I → cs.length ≤ a → cQ tk pl tc a cs I (gp tk k lv op a) (f_gR K 0 (nI lv) (nI op) I) := by
      intro lv op a cs I K h1 h2 h3 h4 h5 h6
      obtain ⟨K, rfl⟩ : ∃ K', K = K' + 1 := ⟨K - 1, by
        have : 1 ≤ ce lv := by
          rcases (by omega : lv = 0 ∨ lv = 1 ∨ lv = 2 ∨ lv = 3 ∨ lv = 4 ∨ lv = 5) with rfl | rfl | rfl | rfl | rfl | rfl <;> decide
        omega⟩
      rw [cE_p K lv op h1]
      refine ih lv op a cs I _ h1 h2 h3 ?_ h5 h6
      rcases (by omega : lv = 0 ∨ lv = 1 ∨ lv = 2 ∨ lv = 3 ∨ lv = 4 ∨ lv = 5) with rfl | rfl | rfl | rfl | rfl | rfl <;> simp only [cd, ce] at * <;> simp <;> omega
    intro lv op a cs I K h1 h2 h3 h4 h5 h6
    have hT := h5.1
    have ha := h5.2.1
    have h160 := hT.1
    have htk := (hT.2.2.2 a ha).2.2.1
    obtain ⟨K, rfl⟩ : ∃ K', K = K' + 1 := ⟨K - 1, by
      have : 1 ≤ cd lv := by
        rcases (by omega : lv = 0 ∨ lv = 1 ∨ lv = 2 ∨ lv = 3 ∨ lv = 4 ∨ lv = 5) with rfl | rfl | rfl | rfl | rfl | rfl <;> decide
      omega⟩
    have en : ∀ n : Nat, n < 20000 → ((nI (tk a) = nI n) ↔ tk a = n) := fun n hn => nI_eq (by omega) (by omega)
    by_cases hl2 : lv = 2
    · subst hl2
      simp only [cd] at h4
      show cQ tk pl tc a cs I (gp tk (k + 1) 2 op a) (f_X2_denial (f_gR K) I (nI op))
      unfold f_X2_denial gp
      rw [cp_tok h5, pr_sb, if_pos rfl]
      by_cases h8 : tk a = 8
      · rw [if_pos h8, if_pos (show nI (tk a) = 8 from (en 8 (by omega)).mpr h8)]
        rcases cp_opens h5 (cq_lt h5 (by omega)) h2 with ⟨ho, I1, e1, g1, r1⟩ | ⟨ho, I1, e1, g1, r1⟩
        · rw [if_pos ho, e1, cq_b2]
          rw [if_neg (by decide), nI_1]
          have hh := ih 2 (op + 1) (a + 1) cs I1 K (by omega) (by omega) (by omega) (by simp only [cd]; omega) g1 (by omega)
          refine cq_b (o := f_gR K 1 (nI (op + 1)) 0 I1) hh r1 (fun x I' hx => ?_) (fun q c I' hq hl => ?_)
          · obtain ⟨I2, e2, g2, r2⟩ := cp_emitF hx 8
            exact ⟨I2, by rw [e2]; rfl, g2, r2⟩
          · rw [cq_id]
            exact cq_emit 8 hq h6 (by omega)
        · rw [if_neg ho, e1, cq_b2]
          rw [if_pos rfl]
          exact ⟨I1, rfl, g1, r1⟩
      · rw [if_neg h8, if_neg (show ¬ nI (tk a) = 8 from fun z => h8 ((en 8 (by omega)).mp z))]
        have hh := HP 3 op a cs I K (by omega) h2 (by omega) (by simp only [ce]; omega) h5 h6
        refine cq_b (o := f_gR K 0 3 (nI op) I) hh (cR_r I) (fun x I' hx => ?_) (fun q c I' hq hl => ?_)
        · refine ⟨I', ?_, hx, cR_r I'⟩
          rw [cp_tokF hx, pr_sb, if_neg (by decide), if_neg (by decide)]
        · have hlq := hq.2.1
          have hq2 := (hT.2.2.2 q hlq).2.2.1
          have en2 : ∀ n : Nat, n < 20000 → ((nI (tk q) = nI n) ↔ tk q = n) := fun n hn => nI_eq (by omega) (by omega)
          rw [cp_tok hq, pr_sb]
          have step : tk q = 60 ∨ tk q = 61 → cQ tk pl tc a cs I' (gp_b (gp tk k 3 op (q + 1)) (fun a2 c2 => .inr (a2, c ++ c2 ++ [tk q]))) ((f_X2_next I').bind fun I2 => (f_gR K 0 3 (nI op) I2).bind fun I3 => (f_X2_emit I3 (nI (tk q))).bind fun I4 => some I4) := fun hs => by
            obtain ⟨I2, e2, g2, r2⟩ := cp_next hq (cq_lt hq (by omega))
            have hh2 := HP 3 op (q + 1) (cs ++ c) I2 K (by omega) h2 (by omega) (by simp only [ce]; omega) g2 (by rw [List.length_append]; omega)
            rw [e2, pr_sb]
            refine cq_b (o := f_gR K 0 3 (nI op) I2) hh2 r2 (fun x I3 hx => ?_) (fun q2 c2 I3 hq2 hl2 => ?_)
            · obtain ⟨I4, e4, g4, r4⟩ := cp_emitF hx (nI (tk q))
              exact ⟨I4, by rw [e4]; rfl, g4, r4⟩
            · rw [cq_id]
              refine cq_emit (c := c ++ c2) (tk q) (by rw [← List.append_assoc]; exact hq2) h6 (by rw [List.length_append]; omega)
          by_cases h60 : tk q = 60
          · rw [if_pos (Or.inl h60), if_pos (show nI (tk q) = 60 from (en2 60 (by omega)).mpr h60)]
            exact step (Or.inl h60)
          · rw [if_neg (show ¬ nI (tk q) = 60 from fun z => h60 ((en2 60 (by omega)).mp z))]
            by_cases h61 : tk q = 61
            · rw [if_pos (Or.inr h61), if_pos (show nI (tk q) = 61 from (en2 61 (by omega)).mpr h61)]
              exact step (Or.inr h61)
            · rw [if_neg (by omega), if_neg (show ¬ nI (tk q) = 61 from fun z => h61 ((en2 61 (by omega)).mp z))]
              exact ⟨I', rfl, hq, cR_r I', hl⟩
    · by_cases hl5 : lv = 5
      · subst hl5
        simp only [cd] at h4
        show cQ tk pl tc a cs I (gp tk (k + 1) 5 op a) (f_X2_one (f_gR K) I (nI op))
        unfold f_X2_one gp
        rw [cp_tok h5, pr_sb, if_neg (by decide), if_pos rfl]
        have leaf : tk a ≠ 20 → cQ tk pl tc a cs I (.inr (a + 1, [tk a])) ((f_X2_next I).bind fun I1 => (f_X2_emit I1 (nI (tk a))).bind fun I2 => some I2) := fun hne => by
          obtain ⟨I1, e1, g1, r1⟩ := cp_next h5 (cq_lt h5 hne)
          rw [e1, pr_sb, cq_id]
          refine cq_pre r1 (cq_emit (c := []) (tk a) (by rw [List.append_nil]; exact g1) h6 (by simp))
        by_cases h6' : tk a < 6
        · rw [if_pos (Or.inl h6'), if_pos (show nI (tk a) < 6 from nI_lt (b := 6) h6' (by omega))]
          exact leaf (by omega)
        · rw [if_neg (show ¬ nI (tk a) < 6 from nI_nlt (b := 6) (by omega) (by omega))]
          by_cases h100 : 100 ≤ tk a
          · rw [if_pos (Or.inr h100), if_neg (show ¬ nI (tk a) < 100 from nI_nlt (b := 100) h100 (by omega))]
            exact leaf (by omega)
          · rw [if_neg (by omega), if_pos (show nI (tk a) < 100 from nI_lt (b := 100) (by omega) (by omega))]
            by_cases h45 : tk a = 45
            · rw [if_pos h45, if_pos (show nI (tk a) = 45 from (en 45 (by omega)).mpr h45)]
              rcases cp_opens h5 (cq_lt h5 (by omega)) h2 with ⟨ho, I1, e1, g1, r1⟩ | ⟨ho, I1, e1, g1, r1⟩
              · rw [if_pos ho, e1, cq_b2]
                rw [if_neg (by decide), nI_1]
                have hh := ih 5 (op + 1) (a + 1) cs I1 K (by omega) (by omega) (by omega) (by simp only [cd]; omega) g1 (by omega)
                refine cq_b (o := f_gR K 2 (nI (op + 1)) 0 I1) hh r1 (fun x I' hx => ?_) (fun q c I' hq hl => ?_)
                · obtain ⟨I2, e2, g2, r2⟩ := cp_emitF hx 22
                  exact ⟨I2, by rw [e2]; rfl, g2, r2⟩
                · rw [cq_id]
                  exact cq_emit 22 hq h6 (by omega)
              · rw [if_neg ho, e1, cq_b2]
                rw [if_pos rfl]
                unfold f_X2_one_j59
                rw [if_neg (show ¬ nI (tk a) = 40 from fun z => by have := (en 40 (by omega)).mp z; omega), cp_failF g1]
                exact ⟨I1, rfl, g1, r1⟩
            · rw [if_neg h45, if_neg (show ¬ nI (tk a) = 45 from fun z => h45 ((en 45 (by omega)).mp z))]
              unfold f_X2_one_j59
              by_cases h40 : tk a = 40
              · rw [if_pos h40, if_pos (show nI (tk a) = 40 from (en 40 (by omega)).mpr h40)]
                rcases cp_opens h5 (cq_lt h5 (by omega)) h2 with ⟨ho, I1, e1, g1, r1⟩ | ⟨ho, I1, e1, g1, r1⟩
                · rw [if_pos ho, e1, cq_b2]
                  rw [if_neg (by decide), nI_1]
                  have hh := HP 0 (op + 1) (a + 1) cs I1 K (by omega) (by omega) (by omega) (by simp only [ce]; omega) g1 (by omega)
                  refine cq_b (o := f_gR K 0 0 (nI (op + 1)) I1) hh r1 (fun x I' hx => ?_) (fun q c I' hq hl => ?_)
                  · refine ⟨I', ?_, hx, cR_r I'⟩
                    rw [show (41 : Int32) = nI 41 from rfl, cp_takeF hx (by omega) (by omega)]
                    rfl
                  · rw [cq_id]
                    rcases cp_take hq (w := 41) (by omega) (by omega) with ⟨t1, t2, I2, e2, g2, r2⟩ | ⟨t1, I2, e2, g2, r2⟩
                    · rw [if_pos t1]
                      exact ⟨I2, e2, g2, r2, (show a + c.length ≤ q + 1 by omega)⟩
                    · rw [if_neg t1]
                      exact ⟨I2, e2, g2, r2⟩
                · rw [if_neg ho, e1, cq_b2]
                  rw [if_pos rfl, cp_failF g1]
                  exact ⟨I1, rfl, g1, r1⟩
              · rw [if_neg h40, if_neg (show ¬ nI (tk a) = 40 from fun z => h40 ((en 40 (by omega)).mp z))]
                obtain ⟨I1, e1, g1, r1⟩ := cp_fail h5
                rw [e1]
                exact ⟨I1, rfl, g1, r1⟩
      · have hlv : lv < 5 := by omega
        unfold cE
        rw [if_neg hl2, if_neg hl5]
        show cQ tk pl tc a cs I (gp tk (k + 1) lv op a) (f_X2_phrase (f_gR K) I (nI lv) (nI op))
        unfold f_X2_phrase
        rw [if_neg (show ¬ nI lv = 2 from fun z => hl2 ((nI_eq (b := 2) (by omega) (by omega)).mp z)), if_pos (show nI lv < 5 from nI_lt (b := 5) hlv (by omega)), nI_1]
        have eg : gp tk (k + 1) lv op a = gp_b (gp tk k (lv + 1) op a) (fun a1 c1 => gp_l tk (gp tk k (lv + 1) op) lv 160 a1 c1) := by
          show (if lv = 2 then _ else if lv = 5 then _ else _) = _
          rw [if_neg hl2, if_neg hl5]
        rw [eg]
        have hfu : 8 * (5 - op) + ce (lv + 1) ≤ K := by
          rcases (by omega : lv = 0 ∨ lv = 1 ∨ lv = 3 ∨ lv = 4) with rfl | rfl | rfl | rfl <;> simp only [cd, ce] at * <;> omega
        have H := fun (a : Nat) (cs : List Nat) (I : rk_I) h5 h6 => HP (lv + 1) op a cs I K (by omega) h2 (by omega) hfu h5 h6
        refine cq_b (o := f_gR K 0 (nI (lv + 1)) (nI op) I) (H a cs I h5 h6) (cR_r I) (fun x I' hx => ?_) (fun q c I' hq hl => ?_)
        · refine ⟨I', ?_, hx, cR_r I'⟩
          rw [cq_out (a := 0) (cs := []) (by omega) hx]
          rfl
        · exact cq_loop hlv H 160 0 a q cs c I' rfl hq h6 hl
end CM
