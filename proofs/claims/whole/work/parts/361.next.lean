/-! THE REFERENCE GOES FROM TOKEN TO TOKEN -/
def mB (bs : Nat → Nat) (sz off : Nat) (I : rk_I) : Prop := sz ≤ 160 ∧ off ≤ 800 ∧ I 31 23 = nI off ∧ I 31 24 = nI sz ∧ ∀ i, i < sz → bs i < 256 ∧ I 32 (off + i) = nI (bs i)
def mR (I I' : rk_I) : Prop := ∀ q i, ¬ (q = 31 ∧ (i = 25 ∨ i = 26 ∨ i = 28)) → I' q i = I q i
def mJ (J J' : rk_J) : Prop := ∀ q i, ¬ (q = 31 ∧ i = 27) → J' q i = J q i
theorem mR_t {I I' I'' : rk_I} (h : mR I I') (h2 : mR I' I'') : mR I I'' := fun q i a => (h2 q i a).trans (h q i a)
theorem mR_u {I : rk_I} {i : Nat} {x : Int32} (h : i = 25 ∨ i = 26 ∨ i = 28) : mR I (rk_ui I 31 i x) := fun q j a => by
  by_cases hq : q = 31
  · subst hq
    rw [ui_n (fun e => a ⟨rfl, by rw [e]; exact h⟩)]
  · rw [ui_o hq]
theorem uj_s {J : rk_J} {k i : Nat} {x : Int64} : rk_uj J k i x k i = x := by simp [rk_uj]
theorem mJ_u {J : rk_J} {x : Int64} : mJ J (rk_uj J 31 27 x) := fun q j a => by
  by_cases hq : q = 31
  · subst hq
    simp [rk_uj]
    intro e
    exact absurd ⟨rfl, e⟩ a
  · rw [rk_uj_o hq]
theorem ui_tw {I : rk_I} {k i : Nat} {x y : Int32} : rk_ui (rk_ui I k i x) k i y = rk_ui I k i y := by
  funext a c
  simp only [rk_ui]
  by_cases h : a = k
  · rw [if_pos h, if_pos h]
    by_cases h2 : c = i
    · rw [if_pos h2, if_pos h2, if_pos h]
    · rw [if_neg h2, if_neg h2, if_pos h, if_neg h2]
  · rw [if_neg h, if_neg h, if_neg h]
theorem ui_sm {I : rk_I} {k i : Nat} {x : Int32} (h : I k i = x) : rk_ui I k i x = I := by
  funext a c
  simp only [rk_ui]
  by_cases h1 : a = k
  · by_cases h2 : c = i
    · rw [if_pos h1, if_pos h2, ← h, h1, h2]
    · rw [if_pos h1, if_neg h2]
  · rw [if_neg h1]
theorem uj_tw {J : rk_J} {k i : Nat} {x y : Int64} : rk_uj (rk_uj J k i x) k i y = rk_uj J k i y := by
  funext a c
  simp only [rk_uj]
  by_cases h : a = k
  · rw [if_pos h, if_pos h]
    by_cases h2 : c = i
    · rw [if_pos h2, if_pos h2, if_pos h]
    · rw [if_neg h2, if_neg h2, if_pos h, if_neg h2]
  · rw [if_neg h, if_neg h, if_neg h]
section MN
variable {bs : Nat → Nat} {sz off : Nat} {I : rk_I} {J : rk_J}
theorem mB_R {I' : rk_I} (h : mB bs sz off I) (hr : mR I I') : mB bs sz off I' := by
  obtain ⟨h1, h2, h3, h4, h5⟩ := h
  refine ⟨h1, h2, by rw [hr 31 23 (by omega)]; exact h3, by rw [hr 31 24 (by omega)]; exact h4, fun i hi => ?_⟩
  rw [hr 32 _ (by omega)]
  exact h5 i hi
theorem mb_at (h : mB bs sz off I) {i : Nat} (hi : i < sz) : f_X10_byteAt I (nI i) = some (nI (bs i)) := by
  obtain ⟨h1, h2, h3, h4, h5⟩ := h
  unfold f_X10_byteAt
  rw [h4, if_neg (nI_ge hi (by omega)), h3, nI_add, pr_rd (by omega) (by omega), (h5 i hi).2]
  rfl
theorem mb_end (h : mB bs sz off I) {i : Nat} (hi : sz ≤ i) (hi2 : i ≤ 1000) : f_X10_byteAt I (nI i) = some (-1) := by
  unfold f_X10_byteAt
  rw [h.2.2.2.1, if_pos (nI_le hi (by omega))]
theorem m_in {x a c : Nat} (hx : x < 256) (ha : a < 1000) (hc : c < 1000) : f_X10_in (nI x).toInt64 (OfNat.ofNat a) (OfNat.ofNat c) = some (if a ≤ x ∧ x ≤ c then 1 else 0) := by
  rw [pr_inI (l := OfNat.ofNat a) (h := OfNat.ofNat c) (a := a) (b := c) (by rw [fa_litL]; exact lN_toInt (by omega)) (by rw [fa_litL]; exact lN_toInt (by omega)), nI_toInt (by omega)]
  by_cases h : a ≤ x ∧ x ≤ c
  · rw [if_pos h, if_pos (by omega)]
  · rw [if_neg h, if_neg (by omega)]
theorem m_inm (l h : Nat) (hl : l < 1000) (hh : h < 1000) (h1 : 0 < l) : f_X10_in (-1 : Int32).toInt64 (OfNat.ofNat l) (OfNat.ofNat h) = some 0 := by
  rw [pr_inI (l := OfNat.ofNat l) (h := OfNat.ofNat h) (a := l) (b := h) (by rw [fa_litL]; exact lN_toInt (by omega)) (by rw [fa_litL]; exact lN_toInt (by omega)), if_neg]
  rw [show (-1 : Int32).toInt = -1 from rfl]
  omega
/-- the blanks before a token -/
theorem mb_blanks (h : mB bs sz off I) {s p : Nat} (hs : I 31 28 = nI s) (hsp : s ≤ p) (hp : p ≤ sz) (hb : ∀ i, s ≤ i → i < p → tz_bl (bs i)) (he : p < sz → ¬ tz_bl (bs p)) : rk_while (fun a9 => f_X10_next_l0 a9 J) I = some (rk_ui I 31 28 (nI p)) := by
  have h160 := h.1
  have hr : ∀ x, mB bs sz off (rk_ui I 31 28 x) := fun x => mB_R h (mR_u (by omega))
  have := pr_run (f := fun a9 => f_X10_next_l0 a9 J) (fun k => rk_ui I 31 28 (nI (s + k))) (p - s) (b := rk_ui I 31 28 (nI p)) (fun k hk => by
    show f_X10_next_l0 (rk_ui I 31 28 (nI (s + k))) J = _
    unfold f_X10_next_l0
    have hbk := hb (s + k) (by omega) (by omega)
    rw [ui_s, mb_at (hr _) (by omega), pr_sb, pr_sb, nI_1, ui_tw]
    rcases hbk with e | e
    · rw [e, if_pos (show nI 32 = 32 from rfl)]
      rfl
    · rw [e, if_neg (by decide), pr_sb, if_pos (show nI 10 = 10 from rfl)]
      rfl) (by
    show f_X10_next_l0 (rk_ui I 31 28 (nI (s + (p - s)))) J = _
    unfold f_X10_next_l0
    rw [show s + (p - s) = p by omega, ui_s]
    by_cases hq : p < sz
    · have hn := he hq
      have hx := (h.2.2.2.2 p hq).1
      rw [mb_at (hr _) hq, pr_sb, if_neg (show ¬ nI (bs p) = 32 from fun z => hn (Or.inl ((nI_eq (b := 32) (by omega) (by omega)).mp z))), pr_sb, if_neg (show ¬ nI (bs p) = 10 from fun z => hn (Or.inr ((nI_eq (b := 10) (by omega) (by omega)).mp z)))]
    · rw [mb_end (hr _) (by omega) (by omega), pr_sb, if_neg (by decide), pr_sb, if_neg (by decide)])
  rw [show rk_ui I 31 28 (nI (s + 0)) = I from ui_sm (by rw [hs]; rfl)] at this
  exact this
end MN
