/-! LETTERS, DIGITS, BLANKS, SIGNS -/
def sg : Nat → Nat
  | 0 => 40
  | 1 => 41
  | 2 => 59
  | 3 => 43
  | 4 => 45
  | 5 => 42
  | 6 => 60
  | _ => 61
theorem sg_rd : ∀ i, i < 8 → rk_sbd 2 (nI i) = some (nI (sg i)) := by decide
theorem sg_by0 : ∀ i, i < 8 → ∀ a, a < 16 → ∀ b, b < 16 → (Int8.toInt32 (Int32.toInt8 (rk_ic (nI (16 * a + b)))) = nI (sg i) ↔ 16 * a + b = sg i) := by decide
theorem sg_by (i : Nat) (hi : i < 8) (x : Nat) (hx : x < 256) : Int8.toInt32 (Int32.toInt8 (rk_ic (nI x))) = nI (sg i) ↔ x = sg i := by
  have := sg_by0 i hi (x / 16) (by omega) (x % 16) (by omega)
  rw [show 16 * (x / 16) + x % 16 = x by omega] at this
  exact this
theorem sg_si (x : Nat) : tz_si x ↔ ∃ i, i < 8 ∧ x = sg i := by
  constructor
  · rintro (h | h | h | h | h | h | h | h)
    · exact ⟨0, by omega, h⟩
    · exact ⟨1, by omega, h⟩
    · exact ⟨2, by omega, h⟩
    · exact ⟨3, by omega, h⟩
    · exact ⟨4, by omega, h⟩
    · exact ⟨5, by omega, h⟩
    · exact ⟨6, by omega, h⟩
    · exact ⟨7, by omega, h⟩
  · rintro ⟨i, hi, rfl⟩
    unfold tz_si
    rcases (by omega : i = 0 ∨ i = 1 ∨ i = 2 ∨ i = 3 ∨ i = 4 ∨ i = 5 ∨ i = 6 ∨ i = 7) with rfl | rfl | rfl | rfl | rfl | rfl | rfl | rfl <;> decide
theorem sg_enc0 : ∀ a, a < 16 → ∀ b, b < 16 → f_J1_canEncode_9a6ad (rk_ic (nI (16 * a + b))) = some 1 := by decide
theorem sg_enc (x : Nat) (hx : x < 256) : f_J1_canEncode_9a6ad (rk_ic (nI x)) = some 1 := by
  have := sg_enc0 (x / 16) (by omega) (x % 16) (by omega)
  rw [show 16 * (x / 16) + x % 16 = x by omega] at this
  exact this
theorem is_let {x : Nat} (h : x < 256) : f_X2_isLetter (nI x) = some (if 97 ≤ x ∧ x ≤ 122 then 1 else 0) := by
  unfold f_X2_isLetter
  by_cases h1 : x < 97
  · rw [if_pos (show nI x < 97 from nI_lt (b := 97) h1 (by omega)), if_neg (by omega)]
  · rw [if_neg (show ¬ nI x < 97 from nI_nlt (b := 97) (by omega) (by omega))]
    by_cases h2 : 122 < x
    · rw [if_pos (show (122 : Int32) < nI x from nI_lt (a := 122) h2 (by omega)), if_neg (by omega)]
    · rw [if_neg (show ¬ (122 : Int32) < nI x from nI_nlt (a := 122) (by omega) (by omega)), if_pos (by omega)]
theorem is_dig {x : Nat} (h : x < 256) : f_X2_isDigit (nI x) = some (if 48 ≤ x ∧ x ≤ 57 then 1 else 0) := by
  unfold f_X2_isDigit
  by_cases h1 : x < 48
  · rw [if_pos (show nI x < 48 from nI_lt (b := 48) h1 (by omega)), if_neg (by omega)]
  · rw [if_neg (show ¬ nI x < 48 from nI_nlt (b := 48) (by omega) (by omega))]
    by_cases h2 : 57 < x
    · rw [if_pos (show (57 : Int32) < nI x from nI_lt (a := 57) h2 (by omega)), if_neg (by omega)]
    · rw [if_neg (show ¬ (57 : Int32) < nI x from nI_nlt (a := 57) (by omega) (by omega)), if_pos (by omega)]
theorem is_bl {x : Nat} (h : x < 256) : f_X2_isBlank (nI x) = some (if x = 32 ∨ x = 10 then 1 else 0) := by
  unfold f_X2_isBlank
  by_cases h1 : x = 32
  · subst h1; rfl
  · rw [if_neg (show ¬ nI x = 32 from fun z => h1 ((nI_eq (b := 32) (by omega) (by omega)).mp z))]
    by_cases h2 : x = 10
    · subst h2; rfl
    · rw [if_neg (show ¬ nI x = 10 from fun z => h2 ((nI_eq (b := 10) (by omega) (by omega)).mp z)), if_neg (by omega)]
theorem sg_loop {x : Nat} (hx : x < 256) : ∀ m i, i + m = 8 → (∀ j, j < i → x ≠ sg j) → ∃ r, rk_while (fun a9 => f_J1_indexOfChar_4cfef_1000006_l7 (nI 8) (Int8.toInt32 (Int32.toInt8 (rk_ic (nI x)))) a9) (nI i) = some r ∧ ((∃ j, j < 8 ∧ x = sg j ∧ r = .inr (nI j)) ∨ ((∀ j, j < 8 → x ≠ sg j) ∧ ∃ z, r = .inl z)) := by
  intro m
  induction m with
  | zero =>
    intro i hi hv
    have : i = 8 := by omega
    subst this
    refine ⟨_, rk_while_out (b := .inl (nI 8)) ?_, Or.inr ⟨hv, _, rfl⟩⟩
    show f_J1_indexOfChar_4cfef_1000006_l7 (nI 8) _ (nI 8) = _
    unfold f_J1_indexOfChar_4cfef_1000006_l7
    rw [if_pos (by decide)]
  | succ m ih =>
    intro i hi hv
    have hstep : f_J1_indexOfChar_4cfef_1000006_l7 (nI 8) (Int8.toInt32 (Int32.toInt8 (rk_ic (nI x)))) (nI i) = if x = sg i then some (.inr (.inr (nI i))) else some (.inl (nI (i + 1))) := by
      unfold f_J1_indexOfChar_4cfef_1000006_l7
      rw [if_neg (nI_ge (by omega) (by omega)), sg_rd i (by omega), pr_sb, nI_1]
      have := sg_by i (by omega) x hx
      by_cases hs : x = sg i
      · rw [if_pos hs, if_pos (this.mpr hs).symm]
      · rw [if_neg hs, if_neg (fun z => hs (this.mp z.symm))]
    by_cases hs : x = sg i
    · rw [if_pos hs] at hstep
      exact ⟨_, rk_while_out hstep, Or.inl ⟨i, by omega, hs, rfl⟩⟩
    · rw [if_neg hs] at hstep
      rw [rk_while_in (a' := nI (i + 1)) hstep]
      refine ih (i + 1) (by omega) (fun j h1 => ?_)
      rcases Nat.lt_or_ge j i with h2 | h2
      · exact hv j h2
      · rw [show j = i by omega]
        exact hs
theorem sg_in {x : Nat} (hx : x < 256) : ∃ y, f_J0_indexOf_0f7a4_1000005 (rk_ic (nI x)) = some y ∧ (0 ≤ y ↔ tz_si x) := by
  obtain ⟨r, e1, h1⟩ := sg_loop hx 8 0 rfl (fun j hj => by omega)
  have e2 : f_J0_indexOf_0f7a4_1000005 (rk_ic (nI x)) = rk_sc r (fun b9 => rk_p1 b9 (fun x1 => some (-1))) (fun q8 => some q8) := by
    unfold f_J0_indexOf_0f7a4_1000005 f_J0_indexOf_7cf53_1000005 f_J0_isLatin1_aae02_1000005 f_J0_length_8abf5_1000005 f_J0_coder_7d493_1000005
    rw [pr_sb, if_neg (by decide), pr_sb, pr_sb]
    unfold f_J1_indexOf_4cfef_1000006
    rw [sg_enc x hx, pr_sb, if_neg (by decide), if_pos (by decide)]
    unfold f_J1_indexOfChar_4cfef_1000006
    rw [show rk_max (0 : Int32) 0 = nI 0 from by decide, show rk_min ((8 : Int32) >>> (0 &&& 31)) 8 = nI 8 from by decide, e1]
    rcases h1 with ⟨j, -, -, rfl⟩ | ⟨-, z, rfl⟩ <;> rfl
  rcases h1 with ⟨j, g1, g2, rfl⟩ | ⟨g, z, rfl⟩
  · exact ⟨nI j, e2, ⟨fun _ => (sg_si x).mpr ⟨j, g1, g2⟩, fun _ => nI_le (a := 0) (by omega) (by omega)⟩⟩
  · exact ⟨-1, e2, ⟨fun h => absurd h (by decide), fun h => by
      obtain ⟨j, g1, g2⟩ := (sg_si x).mp h
      exact absurd g2 (g j g1)⟩⟩
