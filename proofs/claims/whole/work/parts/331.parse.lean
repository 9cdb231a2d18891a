/-! THE PARSER'S RECURSION -/
def cQ (tk pl : Nat → Nat) (tc a : Nat) (cs : List Nat) (I : rk_I) (r : gp_R) (o : Option rk_I) : Prop := match r with
  | .inl f => ∃ I', o = some I' ∧ cF pl tc f I' ∧ cR I I'
  | .inr q => ∃ I', o = some I' ∧ cS tk pl tc q.1 (cs ++ q.2) I' ∧ cR I I' ∧ a + q.2.length ≤ q.1
section CQ
variable {tk pl : Nat → Nat} {tc : Nat}
theorem cq_out {a : Nat} {s : Int32} {cs : List Nat} {I : rk_I} {lv op : Nat} {rec : Nat → Int32 → Int32 → rk_I → Option rk_I} {f : Nat} (hlv : lv < 6) (h : cF pl tc f I) : rk_while (fun a9 => f_X2_phrase_l32 rec a9.2 (nI lv) (nI op) a9.1) (s, I) = some (s, I) := by
  refine rk_while_out ?_
  show f_X2_phrase_l32 rec I (nI lv) (nI op) s = _
  unfold f_X2_phrase_l32
  by_cases hs : (160 : Int32) ≤ s
  · rw [if_pos hs]
  · rw [if_neg hs, cp_tokF h, pr_sb]
    have e := cp_joins (t := 21) (lv := lv) (by omega) hlv
    have e2 : gp_j 21 lv = false := by
      rcases (by omega : lv = 0 ∨ lv = 1 ∨ lv = 2 ∨ lv = 3 ∨ lv = 4 ∨ lv = 5) with rfl | rfl | rfl | rfl | rfl | rfl <;> rfl
    rw [e2] at e
    rw [show (21 : Int32) = nI 21 from rfl, e]
    rfl
theorem cq_loop {lv op k : Nat} {rec : Nat → Int32 → Int32 → rk_I → Option rk_I} (hlv : lv < 5) (H : ∀ (a : Nat) (cs : List Nat) (I : rk_I), cS tk pl tc a cs I → cs.length ≤ a → cQ tk pl tc a cs I (gp tk k (lv + 1) op a) (rec 0 (nI (lv + 1)) (nI op) I)) : ∀ (m s a0 a : Nat) (bs c1 : List Nat) (I : rk_I), s + m = 160 → cS tk pl tc a (bs ++ c1) I → bs.length ≤ a0 → a0 + c1.length ≤ a → cQ tk pl tc a0 bs I (gp_l tk (gp tk k (lv + 1) op) lv m a c1) (rk_b2 (rk_while (fun a9 => f_X2_phrase_l32 rec a9.2 (nI lv) (nI op) a9.1) (nI s, I)) fun _ I2 => some I2)
  | 0, s, a0, a, bs, c1, I, hs, h, hb, hl => by
    have e : rk_while (fun a9 => f_X2_phrase_l32 rec a9.2 (nI lv) (nI op) a9.1) (nI s, I) = some (nI s, I) := by
      refine rk_while_out ?_
      show f_X2_phrase_l32 rec I (nI lv) (nI op) (nI s) = _
      unfold f_X2_phrase_l32
      rw [if_pos (by rw [show s = 160 by omega]; decide)]
    rw [e]
    exact ⟨I, rfl, h, cR_r I, hl⟩
  | m + 1, s, a0, a, bs, c1, I, hs, h, hb, hl => by
    have hT := h.1
    have ha := h.2.1
    have h160 := hT.1
    have htk := (hT.2.2.2 a ha).2.2.1
    have hsg : ¬ (160 : Int32) ≤ nI s := nI_ge (b := 160) (by omega) (by omega)
    have ej := cp_joins (t := tk a) (lv := lv) htk (by omega)
    cases hj : gp_j (tk a) lv with
    | false =>
      have e : rk_while (fun a9 => f_X2_phrase_l32 rec a9.2 (nI lv) (nI op) a9.1) (nI s, I) = some (nI s, I) := by
        refine rk_while_out ?_
        show f_X2_phrase_l32 rec I (nI lv) (nI op) (nI s) = _
        unfold f_X2_phrase_l32
        rw [if_neg hsg, cp_tok h, pr_sb, ej, hj, pr_sb]
        rfl
      have eg : gp_l tk (gp tk k (lv + 1) op) lv (m + 1) a c1 = .inr (a, c1) := by
        unfold gp_l
        rw [hj]
        rfl
      rw [e, eg]
      exact ⟨I, rfl, h, cR_r I, hl⟩
    | true =>
      have hlt : a < tc := by
        rcases Nat.lt_or_ge a tc with g | g
        · exact g
        · exfalso
          have : a = tc := by omega
          rw [this, hT.2.2.1] at hj
          rcases (by omega : lv = 0 ∨ lv = 1 ∨ lv = 2 ∨ lv = 3 ∨ lv = 4) with rfl | rfl | rfl | rfl | rfl <;> exact absurd hj (by decide)
      obtain ⟨I1, e1, h1, r1⟩ := cp_next h hlt
      have hlen : (bs ++ c1).length ≤ a := by rw [List.length_append]; omega
      have hH := H (a + 1) (bs ++ c1) I1 h1 (by omega)
      have eg : gp_l tk (gp tk k (lv + 1) op) lv (m + 1) a c1 = gp_b (gp tk k (lv + 1) op (a + 1)) (fun a' c' => gp_l tk (gp tk k (lv + 1) op) lv m a' (c1 ++ c' ++ [tk a])) := by
        show (if gp_j (tk a) lv then _ else _) = _
        rw [hj]
        rfl
      have est : ∀ I2 I3, rec 0 (nI (lv + 1)) (nI op) I1 = some I2 → f_X2_emit I2 (nI (tk a)) = some I3 → rk_while (fun a9 => f_X2_phrase_l32 rec a9.2 (nI lv) (nI op) a9.1) (nI s, I) = rk_while (fun a9 => f_X2_phrase_l32 rec a9.2 (nI lv) (nI op) a9.1) (nI (s + 1), I3) := fun I2 I3 g2 g3 => by
        refine rk_while_in ?_
        show f_X2_phrase_l32 rec I (nI lv) (nI op) (nI s) = _
        unfold f_X2_phrase_l32
        rw [if_neg hsg, cp_tok h, pr_sb, ej, hj, pr_sb, if_pos rfl, if_neg (by decide), pr_sb, e1, pr_sb, nI_1, g2, pr_sb, g3, pr_sb, nI_1]
      rw [eg]
      cases hg : gp tk k (lv + 1) op (a + 1) with
      | inl f =>
        rw [hg] at hH
        obtain ⟨I2, e2, h2, r2⟩ := hH
        obtain ⟨I3, e3, h3, r3⟩ := cp_emitF h2 (nI (tk a))
        rw [est I2 I3 e2 e3, cq_out (a := 0) (cs := []) (by omega) h3]
        exact ⟨I3, rfl, h3, cR_t r1 (cR_t r2 r3)⟩
      | inr q =>
        rw [hg] at hH
        obtain ⟨I2, e2, h2, r2, l2⟩ := hH
        have hq := h2.2.1
        have hll : (bs ++ c1 ++ q.2).length + 1 ≤ q.1 := by simp only [List.length_append] at *; omega
        obtain ⟨I3, e3, h3, r3⟩ := cp_emit h2 (by omega) (tk a)
        rw [est I2 I3 e2 e3]
        have h3' : cS tk pl tc q.1 (bs ++ (c1 ++ q.2 ++ [tk a])) I3 := by
          rw [show bs ++ (c1 ++ q.2 ++ [tk a]) = bs ++ c1 ++ q.2 ++ [tk a] by simp only [List.append_assoc]]
          exact h3
        have := cq_loop hlv H m (s + 1) a0 q.1 bs (c1 ++ q.2 ++ [tk a]) I3 (by omega) h3' hb (by simp only [List.length_append, List.length_cons, List.length_nil] at *; omega)
        show cQ tk pl tc a0 bs I (gp_l tk (gp tk k (lv + 1) op) lv m q.1 (c1 ++ q.2 ++ [tk a])) _
        revert this
        cases gp_l tk (gp tk k (lv + 1) op) lv m q.1 (c1 ++ q.2 ++ [tk a]) with
        | inl f =>
          rintro ⟨I4, e4, h4, r4⟩
          exact ⟨I4, e4, h4, cR_t r1 (cR_t r2 (cR_t r3 r4))⟩
        | inr q2 =>
          rintro ⟨I4, e4, h4, r4, l4⟩
          exact ⟨I4, e4, h4, cR_t r1 (cR_t r2 (cR_t r3 r4)), l4⟩
end CQ
