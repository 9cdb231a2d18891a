/-! RINGS: sets of sales as bits of a number -/
theorem rb_us {b k : Nat} (hb : b < 2 ^ 31) (hk : k < 32) : rk_us (nI b) (nI k) = nI (b / 2 ^ k) := pk_ushrN (by omega) (nI k) k (s_u k hk)
theorem rb_sh {b k : Nat} (hb : b < 2 ^ 31) (hk : k < 32) : nI b >>> (nI k &&& 31) = nI (b / 2 ^ k) := pk_shrN hb _ k (s_l k hk)
theorem rb_1 {k : Nat} (hk : k < 31) : (1 : Int32) <<< (nI k &&& 31) = nI (2 ^ k) := by
  have h := pk_shlN (n := 1) (nI k &&& 31) k (s_l k (by omega)) (by
    rw [Nat.one_mul]
    exact Nat.pow_lt_pow_right (by decide) (by omega))
  rw [Nat.one_mul] at h
  exact h
theorem rb_pow {k : Nat} (hk : k < 31) : 2 ^ k < 2 ^ 31 := Nat.pow_lt_pow_right (by decide) hk
theorem rb_and {b : Nat} (hb : b < 2 ^ 31) : nI b &&& 1 = nI (b % 2) := pk_andN (by omega) 1 (by decide)
theorem rb_t {b k : Nat} (hb : b < 2 ^ 31) : (nI (b / 2 ^ k) &&& 1 = 0) ↔ b.testBit k = false := by
  rw [rb_and (Nat.lt_of_le_of_lt (Nat.div_le_self _ _) hb), show (0 : Int32) = nI 0 from rfl, nI_eq (by omega) (by omega), Nat.testBit_eq_decide_div_mod_eq]
  constructor
  · intro h
    rw [decide_eq_false_iff_not]
    omega
  · intro h
    rw [decide_eq_false_iff_not] at h
    omega
theorem rb_t1 {b k : Nat} (hb : b < 2 ^ 31) : (nI (b / 2 ^ k) &&& 1 = 1) ↔ b.testBit k = true := by
  rw [rb_and (Nat.lt_of_le_of_lt (Nat.div_le_self _ _) hb), show (1 : Int32) = nI 1 from rfl, nI_eq (by omega) (by omega), Nat.testBit_eq_decide_div_mod_eq, decide_eq_true_iff]
theorem rb_has {b k : Nat} (hb : b < 2 ^ 31) (hk : k < 32) : f_X4_has (nI b) (nI k) = some (if b.testBit k then 1 else 0) := by
  unfold f_X4_has
  rw [rb_us hb hk]
  cases h : b.testBit k with
  | false => rw [if_pos ((rb_t hb).mpr h)]; rfl
  | true => rw [if_neg (fun z => by rw [(rb_t hb).mp z] at h; cases h)]; rfl
/-- sales are told, some, all there -/
theorem rb_in {s : Nat} (hs : s ≤ 24) (a : Int32) : (∃ b, 0 < b ∧ b < 2 ^ s ∧ a = nI b) ∨ ((a = 0 ∨ ¬ rk_us a (nI s) = 0) ∧ ¬ (1 ≤ a.toInt ∧ a.toInt ≤ (2 : Int) ^ s - 1)) := by
  obtain ⟨b, b1, rfl⟩ := wb_of32 a
  have hp : 2 ^ s ≤ 2 ^ 24 := Nat.pow_le_pow_right (by decide) hs
  have hpi : ((2 ^ s : Nat) : Int) = (2 : Int) ^ s := by norm_cast
  by_cases h : 0 < b ∧ b < 2 ^ s
  · exact Or.inl ⟨b, h.1, h.2, rfl⟩
  · right
    rcases Nat.eq_zero_or_pos b with h0 | h0
    · subst h0
      refine ⟨Or.inl rfl, ?_⟩
      have : (nI 0).toInt = 0 := by decide
      omega
    · have hge : 2 ^ s ≤ b := by omega
      constructor
      · right
        have e : rk_us (nI b) (nI s) = nI (b / 2 ^ s) := pk_ushrN b1 (nI s) s (s_u s (by omega))
        rw [e]
        intro z
        have hq : 0 < b / 2 ^ s := Nat.div_pos hge (Nat.two_pow_pos s)
        have hlt : b / 2 ^ s < 2 ^ 32 := Nat.lt_of_le_of_lt (Nat.div_le_self _ _) b1
        have z1 : (nI (b / 2 ^ s)).toBitVec.toNat = 0 := by rw [z]; rfl
        rw [pk_tn hlt] at z1
        omega
      · by_cases hb31 : b < 2 ^ 31
        · rw [nI_toInt hb31, ← hpi]
          omega
        · have : (nI b).toInt < 0 := by
            have e : (nI b).toInt = (nI b).toBitVec.toInt := rfl
            rw [e, BitVec.toInt_eq_toNat_cond, pk_tn b1]
            split <;> omega
          omega
