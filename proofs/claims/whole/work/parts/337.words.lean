/-! WHICH WORD STANDS -/
section WW
variable {bs : Nat → Nat} {b : Nat} {I : rk_I}
theorem ww_run {w p e : Nat} (hw : w < 12) : ∀ m i, i + m = (tz_wd w).length → rk_while (fun a9 => f_X2_wordOf_l8 I (nI p) (nI e) a9.1 a9.2.1 a9.2.2) (nI w, nI (wo w), nI (wo w + i)) = rk_while (fun a9 => f_X2_wordOf_l8 I (nI p) (nI e) a9.1 a9.2.1 a9.2.2) (nI w, nI (wo w), nI (wo w + (tz_wd w).length)) := by
  obtain ⟨w1, w2, w3, w4⟩ := ws_in w hw
  intro m
  induction m with
  | zero =>
    intro i hi
    rw [show i = (tz_wd w).length by omega]
  | succ m ih =>
    intro i hi
    rw [← ih (i + 1) (by omega)]
    refine rk_while_in ?_
    show f_X2_wordOf_l8 I (nI p) (nI e) (nI w) (nI (wo w)) (nI (wo w + i)) = _
    unfold f_X2_wordOf_l8
    have h1 := w1 i (by omega)
    have hs := ws_lt (wo w + i) (by omega)
    rw [h1.1] at hs
    rw [ws_len, pr_sb, if_neg (nI_ge (by omega) (by omega)), ws_ch _ (by omega), pr_sb, h1.1, if_neg (show ¬ nI ((tz_wd w).getD i 0) = 32 from fun z => h1.2 ((nI_eq (b := 32) (by omega) (by omega)).mp z)), nI_1]
    rfl
theorem ww_at (h : wB bs b I) {w p e : Nat} (hw : w < 12) (hp : p < e) (he : e ≤ b) : f_X2_wordOf_l8 I (nI p) (nI e) (nI w) (nI (wo w)) (nI (wo w + (tz_wd w).length)) = if tz_sl bs p e = tz_wd w then some (.inr (.inr (nI w))) else some (.inl (nI (w + 1), nI (wo (w + 1)), nI (wo (w + 1)))) := by
  obtain ⟨w1, w2, w3, w4⟩ := ws_in w hw
  have hb := h.1
  unfold f_X2_wordOf_l8
  rw [ws_len, pr_sb, if_neg (nI_ge (by omega) (by omega)), ws_ch _ (by omega), pr_sb, w2, if_pos (show nI 32 = 32 from rfl), pk_sub (by omega), pk_sub (by omega)]
  have e1 : wo w + (tz_wd w).length - wo w = (tz_wd w).length := by omega
  by_cases hl : (tz_wd w).length = e - p
  · rw [if_pos (by rw [e1, hl]), ws_stands h hw (by omega) he, pr_sb]
    by_cases hs : tz_sl bs p e = tz_wd w
    · rw [if_pos hs, if_pos hs, if_neg (by decide)]
    · rw [if_neg hs, if_neg hs, if_pos rfl, nI_1, nI_1]
      rfl
  · rw [if_neg (fun z => hl (by rw [e1] at z; exact (nI_eq (by omega) (by omega)).mp z)), if_neg (fun z => hl (by rw [← z]; simp [tz_sl])), nI_1, nI_1]
    rfl
theorem ww_all (h : wB bs b I) {p e : Nat} (hp : p < e) (he : e ≤ b) : ∀ m w, w + m = 12 → (∀ v, v < w → tz_sl bs p e ≠ tz_wd v) → ∃ r, rk_while (fun a9 => f_X2_wordOf_l8 I (nI p) (nI e) a9.1 a9.2.1 a9.2.2) (nI w, nI (wo w), nI (wo w)) = some r ∧ ((∃ v, v < 12 ∧ tz_sl bs p e = tz_wd v ∧ r = .inr (nI v)) ∨ ((∀ v, v < 12 → tz_sl bs p e ≠ tz_wd v) ∧ ∃ z, r = .inl z)) := by
  intro m
  induction m with
  | zero =>
    intro w hw hv
    have : w = 12 := by omega
    subst this
    refine ⟨_, rk_while_out (b := .inl (nI 12, nI (wo 12), nI (wo 12))) ?_, Or.inr ⟨hv, _, rfl⟩⟩
    show f_X2_wordOf_l8 I (nI p) (nI e) (nI 12) (nI (wo 12)) (nI (wo 12)) = _
    unfold f_X2_wordOf_l8
    rw [ws_len, pr_sb, ws_end, if_pos (by decide)]
  | succ m ih =>
    intro w hw hv
    have hx := ww_at h (w := w) (by omega) hp he
    have hr := ww_run (I := I) (w := w) (p := p) (e := e) (by omega) (tz_wd w).length 0 (by omega)
    rw [Nat.add_zero] at hr
    rw [hr]
    by_cases hs : tz_sl bs p e = tz_wd w
    · rw [if_pos hs] at hx
      exact ⟨_, rk_while_out hx, Or.inl ⟨w, by omega, hs, rfl⟩⟩
    · rw [if_neg hs] at hx
      rw [rk_while_in (a' := (nI (w + 1), nI (wo (w + 1)), nI (wo (w + 1)))) hx]
      refine ih (w + 1) (by omega) (fun v h1 => ?_)
      rcases Nat.lt_or_ge v w with h2 | h2
      · exact hv v h2
      · rw [show v = w by omega]
        exact hs
theorem ww_word (h : wB bs b I) {p e : Nat} (hp : p < e) (he : e ≤ b) : ∃ t, f_X2_wordOf I (nI p) (nI e) = some (nI t) ∧ ((∃ w, w < 12 ∧ tz_sl bs p e = tz_wd w ∧ t = w) ∨ ((∀ w, w < 12 → tz_sl bs p e ≠ tz_wd w) ∧ t = 21)) := by
  obtain ⟨r, e1, h1⟩ := ww_all h hp he 12 0 rfl (fun v hv => by omega)
  have e2 : f_X2_wordOf I (nI p) (nI e) = rk_sc r (fun b9 => rk_p3 b9 (fun x1 x2 x3 => some 21)) (fun q8 => some q8) := by
    unfold f_X2_wordOf
    rw [show ((0 : Int32), (0 : Int32), (0 : Int32)) = (nI 0, nI (wo 0), nI (wo 0)) from rfl, e1]
    rfl
  rcases h1 with ⟨v, g1, g2, rfl⟩ | ⟨g, z, rfl⟩
  · exact ⟨v, e2, Or.inl ⟨v, g1, g2, rfl⟩⟩
  · exact ⟨21, e2, Or.inr ⟨g, rfl⟩⟩
end WW
