/-! A TOKEN: where it ends, which it is -/
section TE
variable {bs : Nat → Nat} {b : Nat} {I : rk_I}
theorem te_loop (h : wB bs b I) {u2 u3 : Int32} {c : Nat → Prop} (hst : ∀ i, i < b → (c (bs i) ∧ f_X2_endOfToken_l25 I u2 u3 (nI i) = some (.inl (nI (i + 1)))) ∨ (¬ c (bs i) ∧ f_X2_endOfToken_l25 I u2 u3 (nI i) = some (.inr (nI i)))) : ∀ m i, i + m = b → ∃ e, i ≤ e ∧ e ≤ b ∧ rk_while (fun a9 => f_X2_endOfToken_l25 I u2 u3 a9) (nI i) = some (nI e) ∧ (∀ j, i ≤ j → j < e → c (bs j)) ∧ (e < b → ¬ c (bs e)) := by
  intro m
  have hb := h.1
  induction m with
  | zero =>
    intro i hi
    refine ⟨i, by omega, by omega, rk_while_out ?_, fun j h1 h2 => by omega, fun z => by omega⟩
    unfold f_X2_endOfToken_l25
    rw [if_pos (by rw [h.2.1]; exact nI_le (by omega) (by omega))]
  | succ m ih =>
    intro i hi
    rcases hst i (by omega) with ⟨h1, h2⟩ | ⟨h1, h2⟩
    · obtain ⟨e, g1, g2, g3, g4, g5⟩ := ih (i + 1) (by omega)
      refine ⟨e, by omega, g2, by rw [rk_while_in (a' := nI (i + 1)) h2]; exact g3, fun j k1 k2 => ?_, g5⟩
      rcases Nat.eq_or_lt_of_le k1 with rfl | k3
      · exact h1
      · exact g4 j k3 k2
    · exact ⟨i, by omega, by omega, rk_while_out h2, fun j h1 h2 => by omega, fun _ => h1⟩
theorem te_step0 (h : wB bs b I) {i : Nat} (hi : i < b) (u2 u3 : Int32) : f_X2_endOfToken_l25 I u2 u3 (nI i) = (if u2 = 0 then (if u3 = 0 then some (.inr (nI i)) else if 48 ≤ bs i ∧ bs i ≤ 57 then some (.inl (nI (i + 1))) else some (.inr (nI i))) else if 97 ≤ bs i ∧ bs i ≤ 122 then some (.inl (nI (i + 1))) else if u3 = 0 then some (.inr (nI i)) else if 48 ≤ bs i ∧ bs i ≤ 57 then some (.inl (nI (i + 1))) else some (.inr (nI i))) := by
  have hb := h.1
  have hx := (h.2.2 i hi).1
  unfold f_X2_endOfToken_l25
  rw [if_neg (by rw [h.2.1]; exact nI_ge (by omega) (by omega)), ws_rd h hi, pr_sb, pr_sb, is_dig hx, pr_sb, is_let hx, pr_sb, nI_1]
  by_cases h2 : u2 = 0
  · rw [if_pos h2, if_pos h2]
    by_cases h3 : u3 = 0
    · rw [if_pos h3, if_pos h3]
    · rw [if_neg h3, if_neg h3]
      by_cases hd : 48 ≤ bs i ∧ bs i ≤ 57
      · rw [if_pos hd, if_pos hd, if_neg (by decide)]
      · rw [if_neg hd, if_neg hd, if_pos rfl]
  · rw [if_neg h2, if_neg h2]
    by_cases hl : 97 ≤ bs i ∧ bs i ≤ 122
    · rw [if_pos hl, if_pos hl, if_neg (by decide)]
    · rw [if_neg hl, if_neg hl, if_pos rfl]
      by_cases h3 : u3 = 0
      · rw [if_pos h3, if_pos h3]
      · rw [if_neg h3, if_neg h3]
        by_cases hd : 48 ≤ bs i ∧ bs i ≤ 57
        · rw [if_pos hd, if_pos hd, if_neg (by decide)]
        · rw [if_neg hd, if_neg hd, if_pos rfl]
/-- where a token ends -/
def te_E (bs : Nat → Nat) (b p e : Nat) : Prop := p < e ∧ e ≤ b ∧ (tz_le (bs p) → (∀ i, p ≤ i → i < e → tz_le (bs i)) ∧ (e < b → ¬ tz_le (bs e))) ∧ (tz_di (bs p) → (∀ i, p ≤ i → i < e → tz_di (bs i)) ∧ (e < b → ¬ tz_di (bs e))) ∧ (¬ tz_le (bs p) → ¬ tz_di (bs p) → e = p + 1)
theorem te_end (h : wB bs b I) {p : Nat} (hp : p < b) : ∃ e, f_X2_endOfToken I (nI p) = some (nI e) ∧ te_E bs b p e := by
  have hb := h.1
  have hx := (h.2.2 p hp).1
  have e0 : ∀ u2 u3 e, f_X2_isLetter (nI (bs p)) = some u2 → f_X2_isDigit (nI (bs p)) = some u3 → rk_while (fun a9 => f_X2_endOfToken_l25 I u2 u3 a9) (nI (p + 1)) = some (nI e) → f_X2_endOfToken I (nI p) = some (nI e) := fun u2 u3 e g1 g2 g3 => by
    unfold f_X2_endOfToken
    rw [ws_rd h hp, pr_sb, g1, pr_sb, pr_sb, g2, pr_sb, nI_1, g3, pr_sb]
  have hl0 := is_let hx
  have hd0 := is_dig hx
  by_cases hl : 97 ≤ bs p ∧ bs p ≤ 122
  · rw [if_pos hl] at hl0
    rw [if_neg (by omega)] at hd0
    obtain ⟨e, g1, g2, g3, g4, g5⟩ := te_loop h (u2 := 1) (u3 := 0) (c := tz_le) (fun i hi => by
      rw [te_step0 h hi]
      rw [if_neg (by decide), if_pos rfl]
      by_cases hc : 97 ≤ bs i ∧ bs i ≤ 122
      · exact Or.inl ⟨hc, by rw [if_pos hc]⟩
      · exact Or.inr ⟨hc, by rw [if_neg hc]⟩) (b - (p + 1)) (p + 1) (by omega)
    refine ⟨e, e0 1 0 e hl0 hd0 g3, by omega, g2, fun _ => ⟨fun i k1 k2 => ?_, g5⟩, fun z => absurd z (by unfold tz_di; omega), fun z => absurd hl z⟩
    rcases Nat.eq_or_lt_of_le k1 with rfl | k3
    · exact hl
    · exact g4 i k3 k2
  · rw [if_neg hl] at hl0
    by_cases hd : 48 ≤ bs p ∧ bs p ≤ 57
    · rw [if_pos hd] at hd0
      obtain ⟨e, g1, g2, g3, g4, g5⟩ := te_loop h (u2 := 0) (u3 := 1) (c := tz_di) (fun i hi => by
        rw [te_step0 h hi]
        rw [if_pos rfl, if_neg (by decide)]
        by_cases hc : 48 ≤ bs i ∧ bs i ≤ 57
        · exact Or.inl ⟨hc, by rw [if_pos hc]⟩
        · exact Or.inr ⟨hc, by rw [if_neg hc]⟩) (b - (p + 1)) (p + 1) (by omega)
      refine ⟨e, e0 0 1 e hl0 hd0 g3, by omega, g2, fun z => absurd z hl, fun _ => ⟨fun i k1 k2 => ?_, g5⟩, fun _ z => absurd hd z⟩
      rcases Nat.eq_or_lt_of_le k1 with rfl | k3
      · exact hd
      · exact g4 i k3 k2
    · rw [if_neg hd] at hd0
      have g3 : rk_while (fun a9 => f_X2_endOfToken_l25 I 0 0 a9) (nI (p + 1)) = some (nI (p + 1)) := by
        refine rk_while_out ?_
        show f_X2_endOfToken_l25 I 0 0 (nI (p + 1)) = _
        by_cases hq : p + 1 < b
        · rw [te_step0 h hq, if_pos rfl, if_pos rfl]
        · unfold f_X2_endOfToken_l25
          rw [if_pos (by rw [h.2.1]; exact nI_le (by omega) (by omega))]
      exact ⟨p + 1, e0 0 0 (p + 1) hl0 hd0 g3, by omega, by omega, fun z => absurd z hl, fun z => absurd z hd, fun _ _ => rfl⟩
theorem te_num_lt (bs : Nat → Nat) (p : Nat) : ∀ m, (∀ i, p ≤ i → i < p + m → bs i ≤ 57) → tz_nm bs p m < 10 ^ m
  | 0, _ => Nat.one_pos
  | m + 1, h => by
    have h1 := te_num_lt bs p m (fun i a b => h i a (by omega))
    have h2 := h (p + m) (by omega) (by omega)
    unfold tz_nm
    rw [Nat.pow_succ]
    omega
theorem te_num (h : wB bs b I) {p e : Nat} (he : e ≤ b) (hd : ∀ i, p ≤ i → i < e → tz_di (bs i)) (h4 : e - p ≤ 4) (hp : p < e) : f_X2_numberOf I (nI p) (nI e) = some (nI (tz_nm bs p (e - p))) := by
  have hb := h.1
  unfold f_X2_numberOf
  have := pr_run (f := fun a9 => f_X2_numberOf_l5 I (nI e) a9.1 a9.2) (fun m => (nI (tz_nm bs p m), nI (p + m))) (e - p) (b := (nI (tz_nm bs p (e - p)), nI (p + (e - p)))) (fun k hk => by
    have hdk := hd (p + k) (by omega) (by omega)
    unfold tz_di at hdk
    show f_X2_numberOf_l5 I (nI e) (nI (tz_nm bs p k)) (nI (p + k)) = _
    unfold f_X2_numberOf_l5
    rw [if_neg (nI_ge (by omega) (by omega)), ws_rd h (by omega), pr_sb, show (10 : Int32) = nI 10 from rfl, pk_mul, nI_add, show (48 : Int32) = nI 48 from rfl, pk_sub (by omega), nI_1]
    show some (Sum.inl (nI (tz_nm bs p k * 10 + bs (p + k) - 48), nI (p + k + 1))) = some (Sum.inl (nI (10 * tz_nm bs p k + (bs (p + k) - 48)), nI (p + (k + 1))))
    rw [show tz_nm bs p k * 10 + bs (p + k) - 48 = 10 * tz_nm bs p k + (bs (p + k) - 48) by omega]
    rfl) (by
    show f_X2_numberOf_l5 I (nI e) (nI (tz_nm bs p (e - p))) (nI (p + (e - p))) = _
    unfold f_X2_numberOf_l5
    rw [if_pos (nI_le (by omega) (by omega))])
  rw [show ((0 : Int32), nI p) = (nI (tz_nm bs p 0), nI (p + 0)) from rfl, this, cq_b2]
theorem te_tok (h : wB bs b I) {p e : Nat} (hE : te_E bs b p e) : ∃ t, f_X2_tokenOf I (nI p) (nI e) = some (nI t) ∧ tz_tk bs b p e t ∧ t < 20000 := by
  obtain ⟨e1, e2, e3, e4, e5⟩ := hE
  have hb := h.1
  have hx := (h.2.2 p (by omega)).1
  unfold f_X2_tokenOf
  rw [ws_rd h (by omega), pr_sb, is_let hx, pr_sb]
  by_cases hl : 97 ≤ bs p ∧ bs p ≤ 122
  · rw [if_pos hl, if_neg (by decide)]
    obtain ⟨t, g1, g2⟩ := ww_word h e1 e2
    rw [g1, pr_sb]
    refine ⟨t, rfl, Or.inl ⟨hl, (e3 hl).1, (e3 hl).2, g2⟩, ?_⟩
    rcases g2 with ⟨w, a, -, c⟩ | ⟨-, c⟩ <;> omega
  · rw [if_neg hl, if_pos rfl, is_dig hx, pr_sb]
    by_cases hd : 48 ≤ bs p ∧ bs p ≤ 57
    · rw [if_pos hd, if_neg (by decide), pk_sub (by omega)]
      by_cases h4 : e - p ≤ 4
      · have hn := te_num_lt bs p (e - p) (fun i a b => (( e4 hd).1 i a (by omega)).2)
        have hn2 : tz_nm bs p (e - p) < 10 ^ 4 := Nat.lt_of_lt_of_le hn (Nat.pow_le_pow_right (by omega) h4)
        rw [if_pos (show nI (e - p) ≤ 4 from nI_le (b := 4) h4 (by omega)), te_num h e2 (e4 hd).1 h4 e1, pr_sb, show (100 : Int32) = nI 100 from rfl, nI_add]
        exact ⟨_, rfl, Or.inr (Or.inl ⟨hd, (e4 hd).1, (e4 hd).2, Or.inl ⟨h4, rfl⟩⟩), by omega⟩
      · rw [if_neg (show ¬ nI (e - p) ≤ 4 from nI_ge (a := 4) (by omega) (by omega))]
        exact ⟨21, rfl, Or.inr (Or.inl ⟨hd, (e4 hd).1, (e4 hd).2, Or.inr ⟨by omega, rfl⟩⟩), by omega⟩
    · rw [if_neg hd, if_pos rfl]
      obtain ⟨y, g1, g2⟩ := sg_in hx
      rw [g1, pr_sb]
      by_cases hs : tz_si (bs p)
      · rw [if_pos (g2.mpr hs)]
        exact ⟨_, rfl, Or.inr (Or.inr ⟨hl, hd, e5 hl hd, Or.inl ⟨hs, rfl⟩⟩), by omega⟩
      · rw [if_neg (fun z => hs (g2.mp z))]
        exact ⟨21, rfl, Or.inr (Or.inr ⟨hl, hd, e5 hl hd, Or.inr ⟨hs, rfl⟩⟩), by omega⟩
end TE
