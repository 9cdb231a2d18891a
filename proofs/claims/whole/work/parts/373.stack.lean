/-! THE CLASS`S STACK -/
def sk (I : rk_I) (s : List Int32) : Prop := s.length ≤ 160 ∧ I 10 1 = nI s.length ∧ ∀ i, i < s.length → I 11 (s.length - 1 - i) = s.getD i 0
/-- only the stack's own cells -/
def sK (I I' : rk_I) : Prop := ∀ q i, q ≠ 11 → ¬ (q = 10 ∧ i = 1) → I' q i = I q i
theorem sK_t {I I' I'' : rk_I} (h : sK I I') (h2 : sK I' I'') : sK I I'' := fun q i a b => (h2 q i a b).trans (h q i a b)
theorem sK_1 {I : rk_I} {x : Int32} : sK I (rk_ui I 10 1 x) := fun q i a b => by
  by_cases hq : q = 10
  · subst hq
    rw [ui_n (fun e => b ⟨rfl, e⟩)]
  · rw [ui_o hq]
theorem sK_2 {I : rk_I} {i : Nat} {x : Int32} : sK I (rk_ui I 11 i x) := fun q j a b => by rw [ui_o a]
theorem sk_pop {I : rk_I} {s : List Int32} (h : sk I s) : ∃ I', f_X3_pop I = some (ev_p s, I') ∧ sk I' s.tail ∧ sK I I' := by
  obtain ⟨h1, h2, h3⟩ := h
  unfold f_X3_pop
  cases s with
  | nil =>
    refine ⟨I, ?_, ⟨by simp, h2, fun i hi => by simp at hi⟩, fun _ _ _ _ => rfl⟩
    rw [h2, if_neg (by decide)]
    rfl
  | cons v t =>
    simp only [List.length_cons] at h1 h2 h3
    refine ⟨rk_ui I 10 1 (nI t.length), ?_, ⟨by show t.length ≤ 160; omega, ui_s, fun i hi => ?_⟩, sK_1⟩
    · rw [h2, if_pos (show (0 : Int32) < nI (t.length + 1) from nI_lt (a := 0) (by omega) (by omega)), show (1 : Int32) = nI 1 from rfl, pk_sub (by omega), Nat.add_sub_cancel, pr_sb, ui_s, pr_rd (by omega) (by omega), pr_sb, ui_o (by omega)]
      have := h3 0 (by omega)
      simp at this
      rw [this]
      rfl
    · rw [ui_o (by omega)]
      show I 11 (t.length - 1 - i) = t.getD i 0
      have hi' : i < t.length := hi
      have := h3 (i + 1) (by omega)
      rw [show t.length + 1 - 1 - (i + 1) = t.length - 1 - i by omega] at this
      rw [this]
      rfl
theorem sk_push {I : rk_I} {s : List Int32} (h : sk I s) (hl : s.length < 160) (v : Int32) : ∃ I', f_X3_push I v = some I' ∧ sk I' (v :: s) ∧ sK I I' := by
  obtain ⟨h1, h2, h3⟩ := h
  refine ⟨rk_ui (rk_ui I 11 s.length v) 10 1 (nI (s.length + 1)), ?_, ⟨by show s.length + 1 ≤ 160; omega, ui_s, fun i hi => ?_⟩, sK_t sK_2 sK_1⟩
  · unfold f_X3_push
    rw [h2, if_neg (show ¬ (160 : Int32) ≤ nI s.length from nI_ge (b := 160) hl (by omega)), pr_wr (by omega) (by omega), pr_sb, ui_o (by omega), h2, pr_sb, nI_1]
  · rw [ui_o (by omega)]
    have hi' : i < s.length + 1 := hi
    show rk_ui I 11 s.length v 11 (s.length + 1 - 1 - i) = _
    cases i with
    | zero =>
      rw [show s.length + 1 - 1 - 0 = s.length by omega, ui_s]
      rfl
    | succ i =>
      rw [ui_n (by omega), show s.length + 1 - 1 - (i + 1) = s.length - 1 - i by omega, h3 i (by omega)]
      rfl
