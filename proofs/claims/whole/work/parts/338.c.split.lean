/-! THE CLASS SPLITS: its tokens are tz_T -/
def sR (I I' : rk_I) : Prop := ∀ q i, q ≠ 6 → q ≠ 7 → ¬ (q = 4 ∧ i = 4) → I' q i = I q i
theorem sR_t {I I' I'' : rk_I} (h : sR I I') (h2 : sR I' I'') : sR I I'' := fun q i a b c => (h2 q i a b c).trans (h q i a b c)
def sU (f : Nat → Nat) (n x : Nat) : Nat → Nat := fun j => if j = n then x else f j
theorem sU_s {f : Nat → Nat} {n x : Nat} : sU f n x n = x := if_pos rfl
theorem sU_n {f : Nat → Nat} {n x j : Nat} (h : j ≠ n) : sU f n x j = f j := if_neg h
section SP
variable {bs : Nat → Nat} {b : Nat} {I0 : rk_I}
theorem sR_B {I : rk_I} (h : wB bs b I0) (hr : sR I0 I) : wB bs b I := ⟨h.1, by rw [hr 4 1 (by omega) (by omega) (by omega)]; exact h.2.1, fun i hi => by rw [hr 5 i (by omega) (by omega) (by omega)]; exact h.2.2 i hi⟩
def sI (bs : Nat → Nat) (b : Nat) (I0 : rk_I) (k p tc : Nat) (tk pl st : Nat → Nat) (I : rk_I) : Prop := k ≤ p ∧ p ≤ b ∧ tc ≤ k ∧ st 0 = 0 ∧ st tc ≤ p ∧ (∀ i, st tc ≤ i → i < p → tz_bl (bs i)) ∧ (∀ j, j < tc → (st j ≤ pl j ∧ pl j < b ∧ (∀ i, st j ≤ i → i < pl j → tz_bl (bs i)) ∧ ¬ tz_bl (bs (pl j)) ∧ pl j < st (j + 1) ∧ st (j + 1) ≤ b ∧ tz_tk bs b (pl j) (st (j + 1)) (tk j)) ∧ I 6 j = nI (tk j) ∧ I 7 j = nI (pl j) ∧ tk j < 20000 ∧ pl j ≤ 160) ∧ I 4 4 = nI tc ∧ sR I0 I
theorem sp_step (h : wB bs b I0) {k p tc : Nat} {tk pl st : Nat → Nat} {I : rk_I} (hI : sI bs b I0 k p tc tk pl st I) (hp : p < b) : ∃ p' tc' tk' pl' st' I', p < p' ∧ f_X2_split_l9 I (nI p) (nI k) = some (.inl (nI p', nI (k + 1), I')) ∧ sI bs b I0 (k + 1) p' tc' tk' pl' st' I' := by
  obtain ⟨h1, h2, h3, h4, h5, h6, h7, h8, h9⟩ := hI
  have hB := sR_B h h9
  have hb := h.1
  obtain ⟨e, e1, e2⟩ := te_end hB hp
  have hx := (h.2.2 p hp).1
  have hbl := is_bl hx
  have hsg : ¬ (160 : Int32) ≤ nI k := nI_ge (b := 160) (by omega) (by omega)
  have hsb : ¬ I 4 1 ≤ nI p := by rw [hB.2.1]; exact nI_ge hp (by omega)
  by_cases hz : bs p = 32 ∨ bs p = 10
  · rw [if_pos hz] at hbl
    have he : e = p + 1 := e2.2.2.2.2 (by unfold tz_le; omega) (by unfold tz_di; omega)
    refine ⟨e, tc, tk, pl, st, I, by omega, ?_, by omega, e2.2.1, by omega, h4, by omega, fun i a c => ?_, h7, h8, h9⟩
    · unfold f_X2_split_l9
      rw [if_neg hsg, if_neg hsb, e1, pr_sb, ws_rd hB hp, pr_sb, hbl, pr_sb, if_neg (by decide), nI_1]
    · rcases Nat.lt_or_ge i p with g | g
      · exact h6 i a g
      · rw [show i = p by omega]; exact hz
  · rw [if_neg hz] at hbl
    obtain ⟨t, t1, t2, t3⟩ := te_tok hB e2
    have hr : sR I (rk_ui (rk_ui (rk_ui I 6 tc (nI t)) 7 tc (nI p)) 4 4 (nI (tc + 1))) := fun q i a c d => by
      by_cases h4q : q = 4
      · subst h4q
        rw [ui_n (fun z => d ⟨rfl, z⟩), ui_o (by omega), ui_o (by omega)]
      · rw [ui_o h4q, ui_o c, ui_o a]
    refine ⟨e, tc + 1, sU tk tc t, sU pl tc p, sU st (tc + 1) e, _, e2.1, ?_, by have := e2.1; omega, e2.2.1, by omega, ?_, by rw [sU_s]; omega, fun i a c => by rw [sU_s] at a; omega, fun j hj => ?_, ui_s, sR_t h9 hr⟩
    · unfold f_X2_split_l9
      rw [if_neg hsg, if_neg hsb, e1, pr_sb, ws_rd hB hp, pr_sb, hbl, pr_sb, if_pos rfl, t1, pr_sb, h8, pr_wr (by omega) (by omega), pr_sb, ui_o (by omega), h8, pr_wr (by omega) (by omega), pr_sb, ui_o (by omega), ui_o (by omega), h8, pr_sb, nI_1, nI_1]
    · rw [sU_n (by omega)]; exact h4
    · have hc : sU st (tc + 1) e j = st j := sU_n (by omega)
      by_cases hj' : j = tc
      · subst hj'
        rw [sU_s, sU_s, hc, sU_s]
        refine ⟨⟨h5, hp, h6, hz, e2.1, e2.2.1, t2⟩, ?_, ?_, t3, by omega⟩
        · rw [ui_o (by omega), ui_o (by omega), ui_s]
        · rw [ui_o (by omega), ui_s]
      · obtain ⟨g1, g2, g3, g4, g5⟩ := h7 j (by omega)
        rw [hc, sU_n hj', sU_n hj', sU_n (show j + 1 ≠ tc + 1 by omega)]
        refine ⟨g1, ?_, ?_, g4, g5⟩
        · rw [ui_o (by omega), ui_o (by omega), ui_n hj']; exact g2
        · rw [ui_o (by omega), ui_n hj', ui_o (by omega)]; exact g3
theorem sp_loop (h : wB bs b I0) : ∀ (m k p tc : Nat) (tk pl st : Nat → Nat) (I : rk_I), b - p ≤ m → sI bs b I0 k p tc tk pl st I → ∃ k' tc' tk' pl' st' I', rk_while (fun a9 => f_X2_split_l9 a9.2.2 a9.1 a9.2.1) (nI p, nI k, I) = some (nI b, nI k', I') ∧ sI bs b I0 k' b tc' tk' pl' st' I' := by
  intro m
  have hb := h.1
  induction m with
  | zero =>
    intro k p tc tk pl st I hm hI
    have : p = b := by have := hI.2.1; omega
    subst this
    refine ⟨k, tc, tk, pl, st, I, rk_while_out ?_, hI⟩
    show f_X2_split_l9 I (nI p) (nI k) = _
    have hB := sR_B h hI.2.2.2.2.2.2.2.2
    unfold f_X2_split_l9
    rw [if_pos (show I 4 1 ≤ nI p by rw [hB.2.1]; exact nI_le (by omega) (by omega))]
    by_cases hk : (160 : Int32) ≤ nI k
    · rw [if_pos hk]
    · rw [if_neg hk]
  | succ m ih =>
    intro k p tc tk pl st I hm hI
    by_cases hp : p < b
    · obtain ⟨p', tc', tk', pl', st', I', g1, g2, g3⟩ := sp_step h hI hp
      rw [rk_while_in (a' := (nI p', nI (k + 1), I')) g2]
      exact ih (k + 1) p' tc' tk' pl' st' I' (by omega) g3
    · exact ih k p tc tk pl st I (by omega) hI
theorem sp_split {I : rk_I} (h : wB bs b I) : ∃ tk pl st tc I', f_X2_split I = some I' ∧ tz_T bs b tk pl st tc ∧ cT tk pl tc I' ∧ sR I I' := by
  have hb := h.1
  have hr0 : sR I (rk_ui I 4 4 0) := fun q i a c d => by
    by_cases h4q : q = 4
    · subst h4q
      rw [ui_n (fun z => d ⟨rfl, z⟩)]
    · rw [ui_o h4q]
  obtain ⟨k', tc, tk, pl, st, I2, g1, g2⟩ := sp_loop h b 0 0 0 (fun _ => 0) (fun _ => 0) (fun _ => 0) (rk_ui I 4 4 0) (by omega) ⟨Nat.le_refl _, Nat.zero_le _, Nat.le_refl _, rfl, Nat.le_refl _, fun i a c => by omega, fun j hj => by omega, ui_s, hr0⟩
  obtain ⟨h1, h2, h3, h4, h5, h6, h7, h8, h9⟩ := g2
  have hB := sR_B h h9
  have hr : sR I2 (rk_ui (rk_ui I2 6 tc 20) 7 tc (nI b)) := fun q i a c d => by rw [ui_o c, ui_o a]
  refine ⟨sU tk tc 20, sU pl tc b, st, tc, rk_ui (rk_ui I2 6 tc 20) 7 tc (nI b), ?_, ⟨h4, fun j hj => ?_, h5, h6, sU_s, sU_s⟩, ⟨by omega, ?_, sU_s, fun j hj => ?_⟩, sR_t h9 hr⟩
  · unfold f_X2_split
    rw [pr_sb, show ((0 : Int32), (0 : Int32), rk_ui I 4 4 0) = (nI 0, nI 0, rk_ui I 4 4 0) from rfl, g1]
    show f_X2_split_j85 I2 = _
    unfold f_X2_split_j85
    rw [h8, pr_wr (by omega) (by omega), pr_sb, ui_o (by omega), h8, hB.2.1, pr_wr (by omega) (by omega), pr_sb]
  · rw [sU_n (by omega), sU_n (by omega)]
    exact (h7 j hj).1
  · rw [ui_o (by omega), ui_o (by omega)]; exact h8
  · by_cases hj' : j = tc
    · subst hj'
      rw [sU_s, sU_s]
      refine ⟨?_, ?_, by omega, hb⟩
      · rw [ui_o (by omega), ui_s]; rfl
      · rw [ui_s]
    · obtain ⟨-, g2, g3, g4, g5⟩ := h7 j (by omega)
      rw [sU_n hj', sU_n hj']
      refine ⟨?_, ?_, g4, g5⟩
      · rw [ui_o (by omega), ui_n hj']; exact g2
      · rw [ui_n hj', ui_o (by omega)]; exact g3
end SP
