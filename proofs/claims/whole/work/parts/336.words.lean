/-! WHETHER A WORD STANDS -/
section WS
variable {bs : Nat → Nat} {b : Nat} {I : rk_I}
def wB (bs : Nat → Nat) (b : Nat) (I : rk_I) : Prop := b ≤ 160 ∧ I 4 1 = nI b ∧ ∀ i, i < b → bs i < 256 ∧ I 5 i = nI (bs i)
theorem ws_rd (h : wB bs b I) {i : Nat} (hi : i < b) : rk_rd I 5 160 (nI i) = some (nI (bs i)) := by
  have := h.1
  rw [pr_rd (by omega) (by omega), (h.2.2 i hi).2]
theorem ws_st (h : wB bs b I) {w p : Nat} (hw : w < 12) : ∀ m i, i + m = (tz_wd w).length → p + (tz_wd w).length ≤ b → ∃ r, rk_while (fun a9 => f_X2_stands_l3 I (nI (wo w)) (nI p) (nI (p + (tz_wd w).length)) a9) (nI (p + i)) = some r ∧ ((∀ j, i ≤ j → j < (tz_wd w).length → bs (p + j) = (tz_wd w).getD j 0) ∧ (∃ z, r = .inl z) ∨ (¬ (∀ j, i ≤ j → j < (tz_wd w).length → bs (p + j) = (tz_wd w).getD j 0) ∧ r = .inr 0)) := by
  intro m
  obtain ⟨w1, w2, w3, w4⟩ := ws_in w hw
  have hb := h.1
  induction m with
  | zero =>
    intro i hi hp
    refine ⟨_, rk_while_out (b := .inl (nI (p + i))) ?_, Or.inl ⟨fun j h1 h2 => by omega, _, rfl⟩⟩
    show f_X2_stands_l3 I (nI (wo w)) (nI p) (nI (p + (tz_wd w).length)) (nI (p + i)) = _
    unfold f_X2_stands_l3
    rw [if_pos (by rw [show p + i = p + (tz_wd w).length by omega]; exact nI_le (by omega) (by omega))]
  | succ m ih =>
    intro i hi hp
    have hx : f_X2_stands_l3 I (nI (wo w)) (nI p) (nI (p + (tz_wd w).length)) (nI (p + i)) = if bs (p + i) = (tz_wd w).getD i 0 then some (.inl (nI (p + i + 1))) else some (.inr (.inr 0)) := by
      unfold f_X2_stands_l3
      rw [if_neg (nI_ge (by omega) (by omega)), ws_rd h (by omega), pr_sb, nI_add, pk_sub (by omega), show wo w + (p + i) - p = wo w + i by omega, ws_ch _ (by omega), (w1 i (by omega)).1, pr_sb, nI_1]
      have hs := ws_lt (wo w + i) (by omega)
      rw [(w1 i (by omega)).1] at hs
      by_cases he : bs (p + i) = (tz_wd w).getD i 0
      · rw [if_pos he, if_pos (by rw [he])]
      · rw [if_neg he, if_neg (fun z => he ((nI_eq (by have := (h.2.2 (p + i) (by omega)).1; omega) (by omega)).mp z))]
    by_cases he : bs (p + i) = (tz_wd w).getD i 0
    · rw [if_pos he] at hx
      obtain ⟨r, e, hr⟩ := ih (i + 1) (by omega) hp
      refine ⟨r, by rw [rk_while_in (a' := nI (p + i + 1)) hx]; exact e, ?_⟩
      rcases hr with ⟨g1, g2⟩ | ⟨g1, g2⟩
      · refine Or.inl ⟨fun j h1 h2 => ?_, g2⟩
        rcases Nat.eq_or_lt_of_le h1 with rfl | h3
        · exact he
        · exact g1 j h3 h2
      · exact Or.inr ⟨fun z => g1 (fun j h1 h2 => z j (by omega) h2), g2⟩
    · rw [if_neg he] at hx
      exact ⟨_, rk_while_out hx, Or.inr ⟨fun z => he (z i (Nat.le_refl _) (by omega)), rfl⟩⟩
theorem ws_sl {w p : Nat} : (∀ j, j < (tz_wd w).length → bs (p + j) = (tz_wd w).getD j 0) ↔ tz_sl bs p (p + (tz_wd w).length) = tz_wd w := by
  unfold tz_sl
  rw [show p + (tz_wd w).length - p = (tz_wd w).length by omega]
  constructor
  · intro h
    refine List.ext_getElem (by simp) (fun i h1 h2 => ?_)
    rw [List.getElem_map, List.getElem_range, h i h2, List.getD_eq_getElem?_getD, List.getElem?_eq_getElem h2]
    rfl
  · intro h j hj
    rw [← h]
    simp [List.getD_eq_getElem?_getD, hj]
theorem ws_stands (h : wB bs b I) {w p e : Nat} (hw : w < 12) (he : e = p + (tz_wd w).length) (hb : e ≤ b) : f_X2_stands I (nI (wo w)) (nI p) (nI e) = some (if tz_sl bs p e = tz_wd w then 1 else 0) := by
  subst he
  obtain ⟨r, e1, h1⟩ := ws_st h (w := w) (p := p) hw (tz_wd w).length 0 (by omega) hb
  rw [Nat.add_zero] at e1
  unfold f_X2_stands
  rw [e1, pr_sb]
  have hs := ws_sl (bs := bs) (w := w) (p := p)
  rcases h1 with ⟨g, z, rfl⟩ | ⟨g, rfl⟩
  · rw [if_pos (hs.mp (fun j hj => g j (by omega) hj))]
    rfl
  · rw [if_neg (fun z => g (fun j _ hj => hs.mpr z j hj))]
    rfl
end WS
