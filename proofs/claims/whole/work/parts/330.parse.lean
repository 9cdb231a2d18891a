/-! THE CLASS'S PARSER lays the codes of gp. cS: no fault yet, at token a, codes cs; cF: a fault at f -/
def cT (tk pl : Nat → Nat) (tc : Nat) (I : rk_I) : Prop := tc ≤ 160 ∧ I 4 4 = nI tc ∧ tk tc = 20 ∧ ∀ j, j ≤ tc → I 6 j = nI (tk j) ∧ I 7 j = nI (pl j) ∧ tk j < 20000 ∧ pl j ≤ 160
def cS (tk pl : Nat → Nat) (tc a : Nat) (cs : List Nat) (I : rk_I) : Prop := cT tk pl tc I ∧ a ≤ tc ∧ I 4 5 = nI a ∧ I 4 6 = -1 ∧ cs.length ≤ 160 ∧ I 4 8 = nI cs.length ∧ ∀ i, i < cs.length → I 8 i = nI (cs.getD i 0)
def cF (pl : Nat → Nat) (tc f : Nat) (I : rk_I) : Prop := f ≤ tc ∧ pl f ≤ 160 ∧ I 4 6 = nI (pl f) ∧ ∃ z, z ≤ 160 ∧ I 4 8 = nI z
/-- what the parser may write -/
def cR (I I' : rk_I) : Prop := ∀ q i, q ≠ 8 → ¬ (q = 4 ∧ (i = 5 ∨ i = 6 ∨ i = 8)) → I' q i = I q i
theorem cR_r (I : rk_I) : cR I I := fun _ _ _ _ => rfl
theorem cR_t {I I' I'' : rk_I} (h : cR I I') (h2 : cR I' I'') : cR I I'' := fun q i a b => (h2 q i a b).trans (h q i a b)
theorem cT_R {tk pl : Nat → Nat} {tc : Nat} {I I' : rk_I} (h : cT tk pl tc I) (hr : cR I I') : cT tk pl tc I' := by
  obtain ⟨h1, h2, h3, h4⟩ := h
  refine ⟨h1, by rw [hr 4 4 (by omega) (by omega)]; exact h2, h3, fun j hj => ?_⟩
  rw [hr 6 j (by omega) (by omega), hr 7 j (by omega) (by omega)]
  exact h4 j hj
theorem cR_u {I : rk_I} {i : Nat} {x : Int32} (h : i = 5 ∨ i = 6 ∨ i = 8) : cR I (rk_ui I 4 i x) := fun q j a b => by
  by_cases hq : q = 4
  · subst hq
    rw [ui_n (fun e => b ⟨rfl, by rw [e]; exact h⟩)]
  · rw [ui_o hq]
theorem cR_8 {I : rk_I} {i : Nat} {x : Int32} : cR I (rk_ui I 8 i x) := fun q j a b => by rw [ui_o a]
section CP
variable {tk pl : Nat → Nat} {tc a : Nat} {cs : List Nat} {I : rk_I}
theorem cp_tok (h : cS tk pl tc a cs I) : f_X2_token I = some (nI (tk a)) := by
  obtain ⟨⟨h1, h2, h3, h4⟩, ha, h5, h6, -⟩ := h
  unfold f_X2_token
  rw [if_pos h6, h5, pr_rd (by omega) (by omega), (h4 a ha).1]
  rfl
theorem cp_tokF {f : Nat} (h : cF pl tc f I) : f_X2_token I = some 21 := by
  unfold f_X2_token
  rw [if_neg (by rw [h.2.2.1]; exact pr_n1 (by have := h.2.1; omega))]
theorem cp_next (h : cS tk pl tc a cs I) (ha : a < tc) : ∃ I', f_X2_next I = some I' ∧ cS tk pl tc (a + 1) cs I' ∧ cR I I' := by
  obtain ⟨hT, ha', h5, h6, h7, h8, h9⟩ := h
  have h1 := hT.1
  refine ⟨rk_ui I 4 5 (nI (a + 1)), ?_, ⟨cT_R hT (cR_u (Or.inl rfl)), by omega, ui_s, by rw [ui_n (by omega)]; exact h6, h7, by rw [ui_n (by omega)]; exact h8, fun i hi => by rw [ui_o (by omega)]; exact h9 i hi⟩, cR_u (Or.inl rfl)⟩
  unfold f_X2_next
  rw [hT.2.1, h5, if_neg (nI_ge ha (by omega)), pr_sb, nI_1]
theorem cp_emit (h : cS tk pl tc a cs I) (hl : cs.length < 160) (x : Nat) : ∃ I', f_X2_emit I (nI x) = some I' ∧ cS tk pl tc a (cs ++ [x]) I' ∧ cR I I' := by
  obtain ⟨hT, ha', h5, h6, h7, h8, h9⟩ := h
  have hr : cR I (rk_ui (rk_ui I 8 cs.length (nI x)) 4 8 (nI (cs.length + 1))) := cR_t cR_8 (cR_u (Or.inr (Or.inr rfl)))
  refine ⟨rk_ui (rk_ui I 8 cs.length (nI x)) 4 8 (nI (cs.length + 1)), ?_, ⟨cT_R hT hr, ha', ?_, ?_, ?_, ?_, fun i hi => ?_⟩, hr⟩
  · unfold f_X2_emit
    rw [h8, if_neg (show ¬ (160 : Int32) ≤ nI cs.length from nI_ge (b := 160) hl (by omega)), pr_wr hl (by omega), pr_sb, ui_o (by omega), h8, pr_sb, nI_1]
  · rw [ui_n (by omega), ui_o (by omega)]; exact h5
  · rw [ui_n (by omega), ui_o (by omega)]; exact h6
  · rw [List.length_append]; simp; omega
  · rw [ui_s, List.length_append]; rfl
  · rw [List.length_append] at hi
    simp at hi
    rw [ui_o (by omega)]
    by_cases he : i = cs.length
    · subst he
      rw [ui_s]
      simp
    · rw [ui_n he, h9 i (by omega)]
      congr 1
      simp [List.getD_eq_getElem?_getD, List.getElem?_append_left (show i < cs.length by omega)]
theorem cp_emitF {f : Nat} (h : cF pl tc f I) (x : Int32) : ∃ I', f_X2_emit I x = some I' ∧ cF pl tc f I' ∧ cR I I' := by
  obtain ⟨h1, h2, h3, z, h4, h5⟩ := h
  unfold f_X2_emit
  by_cases hz : z = 160
  · refine ⟨I, ?_, ⟨h1, h2, h3, z, h4, h5⟩, cR_r I⟩
    rw [h5, if_pos (by rw [hz]; decide)]
  · refine ⟨rk_ui (rk_ui I 8 z x) 4 8 (nI (z + 1)), ?_, ⟨h1, h2, ?_, z + 1, by omega, ui_s⟩, cR_t cR_8 (cR_u (Or.inr (Or.inr rfl)))⟩
    · rw [h5, if_neg (show ¬ (160 : Int32) ≤ nI z from nI_ge (b := 160) (by omega) (by omega)), pr_wr (by omega) (by omega), pr_sb, ui_o (by omega), h5, pr_sb, nI_1]
    · rw [ui_n (by omega), ui_o (by omega)]; exact h3
theorem cp_fail (h : cS tk pl tc a cs I) : ∃ I', f_X2_fail I = some I' ∧ cF pl tc a I' ∧ cR I I' := by
  obtain ⟨hT, ha', h5, h6, h7, h8, h9⟩ := h
  have h1 := hT.1
  obtain ⟨-, q2, -, q4⟩ := hT.2.2.2 a ha'
  refine ⟨rk_ui I 4 6 (nI (pl a)), ?_, ⟨ha', q4, ui_s, cs.length, h7, by rw [ui_n (by omega)]; exact h8⟩, cR_u (Or.inr (Or.inl rfl))⟩
  unfold f_X2_fail
  rw [if_pos h6, h5, pr_rd (by omega) (by omega), q2, pr_sb, pr_sb]
theorem cp_failF {f : Nat} (h : cF pl tc f I) : f_X2_fail I = some I := by
  unfold f_X2_fail
  rw [if_neg (by rw [h.2.2.1]; exact pr_n1 (by have := h.2.1; omega))]
theorem cp_joins {t lv : Nat} (ht : t < 20000) (hlv : lv < 6) : f_X2_joins (nI t) (nI lv) = some (if gp_j t lv then 1 else 0) := by
  have e : ∀ n : Nat, n < 20000 → ((nI t = nI n) ↔ t = n) := fun n hn => nI_eq (by omega) (by omega)
  unfold f_X2_joins
  rcases (by omega : lv = 0 ∨ lv = 1 ∨ lv = 2 ∨ lv = 3 ∨ lv = 4 ∨ lv = 5) with rfl | rfl | rfl | rfl | rfl | rfl
  · rw [if_pos (by decide)]
    by_cases h : t = 6
    · subst h; rfl
    · rw [if_neg (show ¬ nI t = 6 from fun z => h ((e 6 (by omega)).mp z))]
      simp [gp_j, h]
  · rw [if_neg (by decide), if_pos (by decide)]
    by_cases h : t = 7
    · subst h; rfl
    · rw [if_neg (show ¬ nI t = 7 from fun z => h ((e 7 (by omega)).mp z))]
      simp [gp_j, h]
  · rw [if_neg (by decide), if_neg (by decide), if_pos (by decide)]
    rfl
  · rw [if_neg (by decide), if_neg (by decide), if_neg (by decide), if_pos (by decide)]
    by_cases h : t = 43
    · subst h; rfl
    · rw [if_neg (show ¬ nI t = 43 from fun z => h ((e 43 (by omega)).mp z))]
      by_cases h2 : t = 45
      · subst h2; rfl
      · rw [if_neg (show ¬ nI t = 45 from fun z => h2 ((e 45 (by omega)).mp z))]
        simp [gp_j, h, h2]
  · rw [if_neg (by decide), if_neg (by decide), if_neg (by decide), if_neg (by decide), if_pos (by decide)]
    by_cases h : t = 42
    · subst h; rfl
    · rw [if_neg (show ¬ nI t = 42 from fun z => h ((e 42 (by omega)).mp z))]
      simp [gp_j, h]
  · rw [if_neg (by decide), if_neg (by decide), if_neg (by decide), if_neg (by decide), if_neg (by decide)]
    rfl
theorem cp_opens (h : cS tk pl tc a cs I) (ha : a < tc) {op : Nat} (hop : op ≤ 5) : (op < 5 ∧ ∃ I', f_X2_opens I (nI op) = some (1, I') ∧ cS tk pl tc (a + 1) cs I' ∧ cR I I') ∨ (¬ op < 5 ∧ ∃ I', f_X2_opens I (nI op) = some (0, I') ∧ cF pl tc a I' ∧ cR I I') := by
  unfold f_X2_opens
  by_cases hc : op < 5
  · left
    obtain ⟨I', e1, e2, e3⟩ := cp_next h ha
    refine ⟨hc, I', ?_, e2, e3⟩
    rw [if_pos (show nI op < 5 from nI_lt (b := 5) hc (by omega)), e1]
    rfl
  · right
    obtain ⟨I', e1, e2, e3⟩ := cp_fail h
    refine ⟨hc, I', ?_, e2, e3⟩
    rw [if_neg (show ¬ nI op < 5 from nI_nlt (b := 5) (by omega) (by omega)), e1]
    rfl
theorem cp_take (h : cS tk pl tc a cs I) {w : Nat} (hw : w < 20000) (hw2 : w ≠ 20) : (tk a = w ∧ a < tc ∧ ∃ I', f_X2_take I (nI w) = some I' ∧ cS tk pl tc (a + 1) cs I' ∧ cR I I') ∨ (tk a ≠ w ∧ ∃ I', f_X2_take I (nI w) = some I' ∧ cF pl tc a I' ∧ cR I I') := by
  have hT := h.1
  have ha := h.2.1
  have htk := (hT.2.2.2 a ha).2.2.1
  unfold f_X2_take
  rw [cp_tok h, pr_sb]
  by_cases he : tk a = w
  · have hlt : a < tc := by
      rcases Nat.lt_or_ge a tc with g | g
      · exact g
      · have : a = tc := by omega
        rw [this, hT.2.2.1] at he
        exact absurd he.symm hw2
    obtain ⟨I', e1, e2, e3⟩ := cp_next h hlt
    refine Or.inl ⟨he, hlt, I', ?_, e2, e3⟩
    rw [if_pos (by rw [he]), e1]
    rfl
  · obtain ⟨I', e1, e2, e3⟩ := cp_fail h
    refine Or.inr ⟨he, I', ?_, e2, e3⟩
    rw [if_neg (fun z => he ((nI_eq (by omega) (by omega)).mp z)), e1]
    rfl
theorem cp_takeF {f : Nat} (h : cF pl tc f I) {w : Nat} (hw : w < 20000) (hw2 : w ≠ 21) : f_X2_take I (nI w) = some I := by
  unfold f_X2_take
  rw [cp_tokF h, pr_sb, if_neg (show ¬ (21 : Int32) = nI w from fun z => hw2 ((nI_eq (a := 21) (by omega) (by omega)).mp z).symm), cp_failF h]
  rfl
end CP
