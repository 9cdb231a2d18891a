/-! A PART OF A TEXT reckoned by the class -/
theorem gd_l {a b : List Nat} {i : Nat} (h : i < a.length) : (a ++ b).getD i 0 = a.getD i 0 := by
  simp [List.getD_eq_getElem?_getD, List.getElem?_append_left h]
theorem gd_r {a b : List Nat} {i : Nat} : (a ++ b).getD (a.length + i) 0 = b.getD i 0 := by
  simp [List.getD_eq_getElem?_getD, List.getElem?_append_right]
theorem vl_loop {S : rk_Sh} {R : rk_R} {o q N : Nat} {h : Int32} {nm : Nat → Int32} (hR : R o 0 = some (o + 1)) (hS : S (o + 1) = (20, N)) (ho : 28 ≤ o) (hN : N ≤ 160) : ∀ (d : List Nat) (i : Nat) (s : List Int32) (I : rk_I), (∀ I', sK I I' → ∀ y, y < 6 → f_X3_named I' (nI y) q h = some (nm y)) → sk I s → s.length + d.length ≤ 160 → i + d.length ≤ N → (∀ j, j < d.length → I (o + 1) (i + j) = nI (d.getD j 0)) → (∀ x, x ∈ d → cb_Q x) → ∃ I', rk_while (fun a9 => f_X3_value_l19 S a9.2 R o q h (nI (i + d.length)) a9.1) (nI i, I) = some (nI (i + d.length), I') ∧ sk I' (ev nm d s) ∧ sK I I'
  | [], i, s, I, hn, hs, hl, hi, hc, hq => by
    refine ⟨I, rk_while_out ?_, hs, fun _ _ _ _ => rfl⟩
    show f_X3_value_l19 S I R o q h (nI (i + 0)) (nI i) = _
    unfold f_X3_value_l19
    rw [if_pos (show nI (i + 0) ≤ nI i from nI_le (by omega) (by omega))]
    rfl
  | x :: d, i, s, I, hn, hs, hl, hi, hc, hq => by
    simp only [List.length_cons] at hl hi hc ⊢
    have hx := hq x (List.mem_cons_self ..)
    have hc0 := hc 0 (by omega)
    obtain ⟨I1, e1, g1, r1⟩ := sk_step (x := x) (hn) hs (by omega) hx.2 hx.1
    have el := ev_len (nm := nm) (s := s) (x := x)
    obtain ⟨I2, e2, g2, r2⟩ := vl_loop hR hS ho hN d (i + 1) (ev_s nm s x) I1 (fun I' hI' => hn I' (sK_t r1 hI')) g1 (by omega) (by omega) (fun j hj => by
      rw [r1 (o + 1) _ (by omega) (by omega), show i + 1 + j = i + (j + 1) by omega, hc (j + 1) (by omega)]
      rfl) (fun y hy => hq y (List.mem_cons_of_mem _ hy))
    refine ⟨I2, ?_, g2, sK_t r1 r2⟩
    rw [show i + (d.length + 1) = i + 1 + d.length by omega]
    refine (rk_while_in (a' := (nI (i + 1), I1)) ?_).trans e2
    show f_X3_value_l19 S I R o q h (nI (i + 1 + d.length)) (nI i) = _
    unfold f_X3_value_l19 f_X7_codeAt
    rw [if_neg (nI_ge (by omega) (by omega)), pr_sb, hR, pr_sb, pr_rdD hS (by omega) (by omega), show I (o + 1) i = nI x from hc0, pr_sb, pr_sb, e1, pr_sb, nI_1]
def pc (c : List Nat × List Nat × List Nat) (w : Nat) : List Nat := if w = 0 then c.1 else if w = 1 then c.2.1 else c.2.2
theorem vl_value {S : rk_Sh} {R : rk_R} {o q N sz : Nat} {h : Int32} {nm : Nat → Int32} {I : rk_I} {bs tk pl st : Nat → Nat} {tc : Nat} {c : List Nat × List Nat × List Nat} (hR0 : R o 0 = some (o + 1)) (hR1 : R o 1 = some (o + 2)) (hS : S (o + 1) = (20, N)) (hS2 : S (o + 2) = (20, 3)) (ho : 28 ≤ o) (hT : tz_T bs sz tk pl st tc) (hg : gp_t tk = .inr c) (hN : N = c.1.length + c.2.1.length + c.2.2.length) (hN2 : N ≤ 160) (hcd : ∀ i, i < N → I (o + 1) i = nI ((c.1 ++ c.2.1 ++ c.2.2).getD i 0)) (h0 : I (o + 2) 0 = nI c.1.length) (h1 : I (o + 2) 1 = nI (c.1.length + c.2.1.length)) (h2 : I (o + 2) 2 = nI N) (hn : ∀ I', sK I I' → ∀ y, y < 6 → f_X3_named I' (nI y) q h = some (nm y)) {w : Nat} (hw : w < 3) : ∃ I', f_X3_value S I R o (nI w) q h = some (ev_p (ev nm (pc c w) []), I') ∧ sK I I' := by
  have hcb := cb_t hT.2.2.2.2.2 (cb_T hT) hg
  have hr0 : sK I (rk_ui I 10 1 0) := sK_1
  have main : ∀ b, b + (pc c w).length ≤ N → (∀ j, j < (pc c w).length → (c.1 ++ c.2.1 ++ c.2.2).getD (b + j) 0 = (pc c w).getD j 0) → (∀ x, x ∈ pc c w → cb_Q x) → f_X7_endOf S (rk_ui I 10 1 0) R o (nI w) = some (nI (b + (pc c w).length)) → f_X7_startOf S (rk_ui I 10 1 0) R o (nI w) = some (nI b) → ∃ I', f_X3_value S I R o (nI w) q h = some (ev_p (ev nm (pc c w) []), I') ∧ sK I I' := fun b hb1 hb2 hb3 hb4 hb5 => by
    obtain ⟨I1, e1, g1, r1⟩ := vl_loop (h := h) (nm := nm) (q := q) hR0 hS ho hN2 (pc c w) b [] (rk_ui I 10 1 0) (fun I' hI' => hn I' (sK_t hr0 hI')) ⟨Nat.zero_le _, ui_s, fun i hi => absurd hi (Nat.not_lt_zero _)⟩ (by simp; omega) hb1 (fun j hj => by
      rw [hr0 (o + 1) _ (by omega) (by omega), hcd _ (by omega), hb2 j hj]) hb3
    obtain ⟨I2, e2, g2, r2⟩ := sk_pop g1
    refine ⟨I2, ?_, sK_t hr0 (sK_t r1 r2)⟩
    unfold f_X3_value
    rw [pr_sb, hb4, pr_sb, hb5, pr_sb, e1, cq_b2, e2]
    rfl
  have ee : ∀ w, w < 3 → f_X7_endOf S (rk_ui I 10 1 0) R o (nI w) = some (I (o + 2) w) := fun w hw => by
    unfold f_X7_endOf
    rw [pr_sb, hR1, pr_sb, pr_rdD hS2 hw (by omega), pr_sb, hr0 (o + 2) _ (by omega) (by omega)]
  have es : ∀ w, w < 2 → f_X7_startOf S (rk_ui I 10 1 0) R o (nI (w + 1)) = some (I (o + 2) w) := fun w hw => by
    unfold f_X7_startOf
    rw [if_neg (show ¬ nI (w + 1) = 0 from fun z => by have := (nI_eq (b := 0) (by omega) (by omega)).mp z; omega), pr_sb, hR1, pr_sb, show (1 : Int32) = nI 1 from rfl, pk_sub (by omega), Nat.add_sub_cancel, pr_rdD hS2 (by omega) (by omega), pr_sb, hr0 (o + 2) _ (by omega) (by omega)]
  rcases (by omega : w = 0 ∨ w = 1 ∨ w = 2) with rfl | rfl | rfl
  · have e : pc c 0 = c.1 := rfl
    refine main 0 (by rw [e]; omega) (fun j hj => ?_) (by rw [e]; exact hcb.1) ?_ ?_
    · rw [e] at hj ⊢
      rw [Nat.zero_add, gd_l (by rw [List.length_append]; omega), gd_l hj]
    · rw [ee 0 (by omega), h0, e, Nat.zero_add]
    · unfold f_X7_startOf
      rw [if_pos (show nI 0 = 0 from rfl)]
      rfl
  · have e : pc c 1 = c.2.1 := rfl
    refine main c.1.length (by rw [e]; omega) (fun j hj => ?_) (by rw [e]; exact hcb.2.1) ?_ ?_
    · rw [e] at hj ⊢
      rw [gd_l (by rw [List.length_append]; omega), gd_r]
    · rw [ee 1 (by omega), h1, e]
    · rw [es 0 (by omega), h0]
  · have e : pc c 2 = c.2.2 := rfl
    refine main (c.1.length + c.2.1.length) (by rw [e]; omega) (fun j hj => ?_) (by rw [e]; exact hcb.2.2) ?_ ?_
    · rw [e] at hj ⊢
      rw [← List.length_append, gd_r]
    · rw [ee 2 (by omega), h2, e, hN]
    · rw [es 1 (by omega), h1]
