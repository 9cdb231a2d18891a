/-! THE REFERENCE'S WORDS AND NUMBERS -/
theorem m_le {x : Nat} (hx : x < 256) : f_X10_in (nI x).toInt64 97 122 = some (if 97 ≤ x ∧ x ≤ 122 then 1 else 0) := m_in (a := 97) (c := 122) hx (by decide) (by decide)
theorem m_di {x : Nat} (hx : x < 256) : f_X10_in (nI x).toInt64 48 57 = some (if 48 ≤ x ∧ x ≤ 57 then 1 else 0) := m_in (a := 48) (c := 57) hx (by decide) (by decide)
theorem m_le1 : f_X10_in (-1 : Int32).toInt64 97 122 = some 0 := m_inm 97 122 (by decide) (by decide) (by decide)
theorem m_di1 : f_X10_in (-1 : Int32).toInt64 48 57 = some 0 := m_inm 48 57 (by decide) (by decide) (by decide)
noncomputable def mwl (f : Nat → Nat) (m : Nat) : Int64 := if m ≤ 8 then lN (tz_w f m) else -1
section MW
variable {bs : Nat → Nat} {sz off : Nat} {I : rk_I} {J : rk_J}
theorem mw_word (h : mB bs sz off I) {p e : Nat} (hs : I 31 28 = nI p) (hpe : p < e) (he : e ≤ sz) (hl : ∀ i, p ≤ i → i < e → tz_le (bs i)) (hn : e < sz → ¬ tz_le (bs e)) : rk_while (fun a9 => f_X10_next_l107 a9.2.1 a9.2.2 a9.1) (0, I, rk_uj J 31 27 0) = some (nI (e - p), rk_ui I 31 28 (nI e), rk_uj J 31 27 (mwl (fun i => bs (p + i)) (e - p))) := by
  have h160 := h.1
  have hr : ∀ x, mB bs sz off (rk_ui I 31 28 x) := fun x => mB_R h (mR_u (by omega))
  have := pr_run (f := fun a9 => f_X10_next_l107 a9.2.1 a9.2.2 a9.1) (fun k => (nI k, rk_ui I 31 28 (nI (p + k)), rk_uj J 31 27 (mwl (fun i => bs (p + i)) k))) (e - p) (b := (nI (e - p), rk_ui I 31 28 (nI e), rk_uj J 31 27 (mwl (fun i => bs (p + i)) (e - p)))) (fun k hk => by
    show f_X10_next_l107 (rk_ui I 31 28 (nI (p + k))) (rk_uj J 31 27 (mwl (fun i => bs (p + i)) k)) (nI k) = _
    unfold f_X10_next_l107
    have hlk := hl (p + k) (by omega) (by omega)
    have hx := (h.2.2.2.2 (p + k) (by omega)).1
    rw [ui_s, mb_at (hr _) (by omega), pr_sb, m_le hx, if_pos (show 97 ≤ bs (p + k) ∧ bs (p + k) ≤ 122 from hlk), pr_sb, if_neg (by decide), pr_sb, pr_sb, uj_s, nI_1, nI_1, ui_tw, uj_tw]
    by_cases h8 : 8 ≤ k
    · rw [if_pos (show (8 : Int32) ≤ nI k from nI_le (a := 8) h8 (by omega))]
      show some (Sum.inl (nI (k + 1), rk_ui I 31 28 (nI (p + k + 1)), rk_uj J 31 27 (-1))) = _
      unfold mwl
      rw [if_neg (by omega)]
      rfl
    · rw [if_neg (show ¬ (8 : Int32) ≤ nI k from nI_ge (b := 8) (by omega) (by omega)), pr_sb, pr_sb]
      have e1 : mwl (fun i => bs (p + i)) (k + 1) = (27 * mwl (fun i => bs (p + i)) k + (nI (bs (p + k))).toInt64) - 96 := by
        unfold mwl
        unfold tz_le at hlk
        rw [if_pos (by omega), if_pos (by omega), nI_l (by omega), show (27 : Int64) = lN 27 from rfl, show (96 : Int64) = lN 96 from rfl, lN_mul, lN_add, lN_sub (by omega)]
        show lN (27 * tz_w (fun i => bs (p + i)) k + (bs (p + k) - 96)) = _
        congr 1
        omega
      rw [← e1, uj_tw]
      rfl) (by
    show f_X10_next_l107 (rk_ui I 31 28 (nI (p + (e - p)))) (rk_uj J 31 27 (mwl (fun i => bs (p + i)) (e - p))) (nI (e - p)) = _
    unfold f_X10_next_l107
    rw [show p + (e - p) = e by omega, ui_s]
    by_cases hq : e < sz
    · rw [mb_at (hr _) hq, pr_sb, m_le (h.2.2.2.2 e hq).1, if_neg (show ¬ (97 ≤ bs e ∧ bs e ≤ 122) from hn hq), pr_sb, if_pos rfl]
    · rw [mb_end (hr _) (by omega) (by omega), pr_sb, m_le1, pr_sb, if_pos rfl])
  rw [show rk_ui I 31 28 (nI (p + 0)) = I from ui_sm (by rw [hs]; rfl)] at this
  exact this
theorem mw_num (h : mB bs sz off I) {p e : Nat} (hs : I 31 28 = nI p) (hpe : p < e) (he : e ≤ sz) (hl : ∀ i, p ≤ i → i < e → tz_di (bs i)) (hn : e < sz → ¬ tz_di (bs e)) : rk_while (fun a9 => f_X10_next_l211 a9.2.1 a9.2.2 a9.1) (0, I, rk_uj J 31 27 0) = some (nI (e - p), rk_ui I 31 28 (nI e), rk_uj J 31 27 (lN (tz_nm bs p (if e - p ≤ 4 then e - p else 4)))) := by
  have h160 := h.1
  have hr : ∀ x, mB bs sz off (rk_ui I 31 28 x) := fun x => mB_R h (mR_u (by omega))
  have := pr_run (f := fun a9 => f_X10_next_l211 a9.2.1 a9.2.2 a9.1) (fun k => (nI k, rk_ui I 31 28 (nI (p + k)), rk_uj J 31 27 (lN (tz_nm bs p (if k ≤ 4 then k else 4))))) (e - p) (b := (nI (e - p), rk_ui I 31 28 (nI e), rk_uj J 31 27 (lN (tz_nm bs p (if e - p ≤ 4 then e - p else 4))))) (fun k hk => by
    show f_X10_next_l211 (rk_ui I 31 28 (nI (p + k))) (rk_uj J 31 27 (lN (tz_nm bs p (if k ≤ 4 then k else 4)))) (nI k) = _
    unfold f_X10_next_l211
    have hlk := hl (p + k) (by omega) (by omega)
    have hx := (h.2.2.2.2 (p + k) (by omega)).1
    rw [ui_s, mb_at (hr _) (by omega), pr_sb, m_di hx, if_pos (show 48 ≤ bs (p + k) ∧ bs (p + k) ≤ 57 from hlk), pr_sb, if_neg (by decide), pr_sb, pr_sb, uj_s, nI_1, nI_1, ui_tw, uj_tw]
    by_cases h8 : 4 ≤ k
    · rw [if_pos (show (4 : Int32) ≤ nI k from nI_le (a := 4) h8 (by omega))]
      rw [show (if k + 1 ≤ 4 then k + 1 else 4) = 4 from if_neg (by omega), show (if k ≤ 4 then k else 4) = 4 by split <;> omega]
      rfl
    · rw [if_neg (show ¬ (4 : Int32) ≤ nI k from nI_ge (b := 4) (by omega) (by omega)), pr_sb, pr_sb]
      have e1 : lN (tz_nm bs p (if k + 1 ≤ 4 then k + 1 else 4)) = (10 * lN (tz_nm bs p (if k ≤ 4 then k else 4)) + (nI (bs (p + k))).toInt64) - 48 := by
        unfold tz_di at hlk
        rw [if_pos (by omega), if_pos (by omega), nI_l (by omega), show (10 : Int64) = lN 10 from rfl, show (48 : Int64) = lN 48 from rfl, lN_mul, lN_add, lN_sub (by omega)]
        show lN (10 * tz_nm bs p k + (bs (p + k) - 48)) = _
        congr 1
        omega
      rw [e1, uj_tw]
      rfl) (by
    show f_X10_next_l211 (rk_ui I 31 28 (nI (p + (e - p)))) (rk_uj J 31 27 _) (nI (e - p)) = _
    unfold f_X10_next_l211
    rw [show p + (e - p) = e by omega, ui_s]
    by_cases hq : e < sz
    · rw [mb_at (hr _) hq, pr_sb, m_di (h.2.2.2.2 e hq).1, if_neg (show ¬ (48 ≤ bs e ∧ bs e ≤ 57) from hn hq), pr_sb, if_pos rfl]
    · rw [mb_end (hr _) (by omega) (by omega), pr_sb, m_di1, pr_sb, if_pos rfl])
  rw [show rk_ui I 31 28 (nI (p + 0)) = I from ui_sm (by rw [hs]; rfl)] at this
  exact this
end MW
