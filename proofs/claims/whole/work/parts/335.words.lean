/-! THE TWELVE WORDS, as the class keeps them: one string, a blank behind each -/
def wS : List Nat := [107, 105, 110, 100, 32, 104, 111, 117, 114, 32, 112, 114, 105, 99, 101, 32, 97, 109, 111, 117, 110, 116, 32, 112, 97, 105, 100, 32, 100, 117, 101, 32, 111, 114, 32, 97, 110, 100, 32, 110, 111, 116, 32, 108, 97, 116, 101, 32, 99, 117, 116, 32, 115, 116, 111, 112, 32]
def wo : Nat → Nat
  | 0 => 0
  | w + 1 => wo w + (tz_wd w).length + 1
theorem ws_in : ∀ w, w < 12 → (∀ i, i < (tz_wd w).length → wS.getD (wo w + i) 0 = (tz_wd w).getD i 0 ∧ ¬ (tz_wd w).getD i 0 = 32) ∧ wS.getD (wo w + (tz_wd w).length) 0 = 32 ∧ wo w + (tz_wd w).length < 57 ∧ (tz_wd w).length < 7 := by decide
theorem ws_end : wo 12 = 57 := by decide
theorem ws_lt : ∀ i, i < 57 → wS.getD i 0 < 256 := by decide
theorem ws_len : f_J0_length_8abf5_1000003 = some (nI 57) := by
  unfold f_J0_length_8abf5_1000003 f_J0_coder_7d493_1000003
  rfl
theorem ws_ch : ∀ i, i < 57 → f_J0_charAt_5068e_1000003 (nI i) = some (nI (wS.getD i 0)) := by
  decide
