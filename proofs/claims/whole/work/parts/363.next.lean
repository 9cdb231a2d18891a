/-! THE REFERENCE'S TOKEN is the class's -/
def mK (t : Nat) (kd : Int32) (wt : Int64) : Prop := (t < 12 ∧ kd = 1 ∧ wt = lN (wv t)) ∨ (t = 20 ∧ kd = 0) ∨ (t = 21 ∧ (kd = 4 ∨ (kd = 1 ∧ ∀ w, w < 12 → wt ≠ lN (wv w)))) ∨ (100 ≤ t ∧ t < 10100 ∧ kd = 2 ∧ wt = lN (t - 100)) ∨ (tz_si t ∧ kd = 3 ∧ wt = lN t)
def mN (tk pl st : Nat → Nat) (tc j : Nat) (I : rk_I) (J : rk_J) : Prop := I 31 26 = nI (pl j) ∧ (j < tc → tk j ≠ 21 → I 31 28 = nI (st (j + 1))) ∧ mK (tk j) (I 31 25) (J 31 27)
theorem cq_b3 {α β γ δ : Type} (x : α) (y : β) (z : γ) (f : α → β → γ → Option δ) : rk_b3 (some (x, y, z)) f = f x y z := rfl
theorem mk_m1 : ∀ w, w < 12 → (-1 : Int64) ≠ lN (wv w) := by decide
theorem mk_lt : ∀ w, w < 12 → wv w < 2 ^ 63 := by decide
section MX
variable {bs : Nat → Nat} {sz off : Nat} {tk pl st : Nat → Nat} {tc : Nat} {I : rk_I} {J : rk_J}
noncomputable def mChain (I3 : rk_I) (J : rk_J) (x1 : Int32) : Option (rk_I × rk_J) := if x1 = 40 then (f_X10_next_j351 I3 J x1) else (if x1 = 41 then (f_X10_next_j351 I3 J x1) else (if x1 = 59 then (f_X10_next_j351 I3 J x1) else (if x1 = 43 then (f_X10_next_j351 I3 J x1) else (if x1 = 45 then (f_X10_next_j351 I3 J x1) else (if x1 = 42 then (f_X10_next_j351 I3 J x1) else (if x1 = 60 then (f_X10_next_j351 I3 J x1) else (if x1 = 61 then (f_X10_next_j351 I3 J x1) else (some (I3, J)))))))))
theorem mc_sign {x : Nat} (hx : x < 256) (hs : tz_si x) (I3 : rk_I) : mChain I3 J (nI x) = f_X10_next_j351 I3 J (nI x) := by
  unfold mChain
  rcases hs with h | h | h | h | h | h | h | h
  · rw [h, if_pos (show nI 40 = 40 from rfl)]
  · rw [h, if_neg (show ¬ nI 41 = 40 by decide), if_pos (show nI 41 = 41 from rfl)]
  · rw [h, if_neg (show ¬ nI 59 = 40 by decide), if_neg (show ¬ nI 59 = 41 by decide), if_pos (show nI 59 = 59 from rfl)]
  · rw [h, if_neg (show ¬ nI 43 = 40 by decide), if_neg (show ¬ nI 43 = 41 by decide), if_neg (show ¬ nI 43 = 59 by decide), if_pos (show nI 43 = 43 from rfl)]
  · rw [h, if_neg (show ¬ nI 45 = 40 by decide), if_neg (show ¬ nI 45 = 41 by decide), if_neg (show ¬ nI 45 = 59 by decide), if_neg (show ¬ nI 45 = 43 by decide), if_pos (show nI 45 = 45 from rfl)]
  · rw [h, if_neg (show ¬ nI 42 = 40 by decide), if_neg (show ¬ nI 42 = 41 by decide), if_neg (show ¬ nI 42 = 59 by decide), if_neg (show ¬ nI 42 = 43 by decide), if_neg (show ¬ nI 42 = 45 by decide), if_pos (show nI 42 = 42 from rfl)]
  · rw [h, if_neg (show ¬ nI 60 = 40 by decide), if_neg (show ¬ nI 60 = 41 by decide), if_neg (show ¬ nI 60 = 59 by decide), if_neg (show ¬ nI 60 = 43 by decide), if_neg (show ¬ nI 60 = 45 by decide), if_neg (show ¬ nI 60 = 42 by decide), if_pos (show nI 60 = 60 from rfl)]
  · rw [h, if_neg (show ¬ nI 61 = 40 by decide), if_neg (show ¬ nI 61 = 41 by decide), if_neg (show ¬ nI 61 = 59 by decide), if_neg (show ¬ nI 61 = 43 by decide), if_neg (show ¬ nI 61 = 45 by decide), if_neg (show ¬ nI 61 = 42 by decide), if_neg (show ¬ nI 61 = 60 by decide), if_pos (show nI 61 = 61 from rfl)]
theorem mc_none {x : Nat} (hx : x < 256) (hs : ¬ tz_si x) (I3 : rk_I) : mChain I3 J (nI x) = some (I3, J) := by
  unfold mChain
  unfold tz_si at hs
  rw [if_neg (show ¬ nI x = 40 from fun z => hs (by have := (nI_eq (b := 40) (by omega) (by omega)).mp z; omega)), if_neg (show ¬ nI x = 41 from fun z => hs (by have := (nI_eq (b := 41) (by omega) (by omega)).mp z; omega)), if_neg (show ¬ nI x = 59 from fun z => hs (by have := (nI_eq (b := 59) (by omega) (by omega)).mp z; omega)), if_neg (show ¬ nI x = 43 from fun z => hs (by have := (nI_eq (b := 43) (by omega) (by omega)).mp z; omega)), if_neg (show ¬ nI x = 45 from fun z => hs (by have := (nI_eq (b := 45) (by omega) (by omega)).mp z; omega)), if_neg (show ¬ nI x = 42 from fun z => hs (by have := (nI_eq (b := 42) (by omega) (by omega)).mp z; omega)), if_neg (show ¬ nI x = 60 from fun z => hs (by have := (nI_eq (b := 60) (by omega) (by omega)).mp z; omega)), if_neg (show ¬ nI x = 61 from fun z => hs (by have := (nI_eq (b := 61) (by omega) (by omega)).mp z; omega))]
theorem mn_next (hT : tz_T bs sz tk pl st tc) (h : mB bs sz off I) {j : Nat} (hj : j ≤ tc) (hs : I 31 28 = nI (st j)) : ∃ I' J', f_X10_next I J = some (I', J') ∧ mN tk pl st tc j I' J' ∧ mR I I' ∧ mJ J J' := by
  obtain ⟨t1, t2, t3, t4, t5, t6⟩ := hT
  have h160 := h.1
  have hbl : rk_while (fun a9 => f_X10_next_l0 a9 J) I = some (rk_ui I 31 28 (nI (pl j))) := by
    rcases Nat.lt_or_ge j tc with g | g
    · obtain ⟨a1, a2, a3, a4, a5, a6, a7⟩ := t2 j g
      exact mb_blanks h hs a1 (by omega) a3 (fun _ => a4)
    · have : j = tc := by omega
      subst this
      rw [t5]
      exact mb_blanks h hs t3 (Nat.le_refl _) t4 (fun z => by omega)
  have hr2 : mR I (rk_ui (rk_ui I 31 28 (nI (pl j))) 31 26 (nI (pl j))) := mR_t (mR_u (by omega)) (mR_u (by omega))
  have hB2 := mB_R h hr2
  have hr3 : ∀ x, mR I (rk_ui (rk_ui (rk_ui I 31 28 (nI (pl j))) 31 26 (nI (pl j))) 31 25 x) := fun x => mR_t hr2 (mR_u (by omega))
  have head : ∀ x1 : Int32, f_X10_byteAt (rk_ui (rk_ui I 31 28 (nI (pl j))) 31 26 (nI (pl j))) (nI (pl j)) = some x1 → f_X10_next I J = if 0 ≤ x1 then ((f_X10_in x1.toInt64 97 122).bind fun x2 => if x2 = 0 then ((f_X10_in x1.toInt64 48 57).bind fun x3 => if x3 = 0 then mChain (rk_ui (rk_ui (rk_ui I 31 28 (nI (pl j))) 31 26 (nI (pl j))) 31 25 4) J x1 else (rk_b3 (rk_while (fun a9 => f_X10_next_l211 a9.2.1 a9.2.2 a9.1) (0, rk_ui (rk_ui (rk_ui I 31 28 (nI (pl j))) 31 26 (nI (pl j))) 31 25 2, rk_uj J 31 27 0)) fun x4 I5 J2 => if x4 ≤ 4 then some (rk_ui I5 31 25 2, J2) else some (rk_ui I5 31 25 4, J2))) else (rk_b3 (rk_while (fun a9 => f_X10_next_l107 a9.2.1 a9.2.2 a9.1) (0, rk_ui (rk_ui (rk_ui I 31 28 (nI (pl j))) 31 26 (nI (pl j))) 31 25 1, rk_uj J 31 27 0)) fun x5 I9 J4 => some (I9, J4))) else some (rk_ui (rk_ui (rk_ui (rk_ui I 31 28 (nI (pl j))) 31 26 (nI (pl j))) 31 25 0) 31 26 ((rk_ui (rk_ui (rk_ui I 31 28 (nI (pl j))) 31 26 (nI (pl j))) 31 25 0) 31 24), J) := fun x1 hx1 => by
    unfold f_X10_next
    rw [hbl, pr_sb, ui_s, pr_sb, ui_n (by omega), ui_s, hx1, pr_sb, pr_sb, pr_sb, pr_sb, ui_tw, ui_tw, ui_tw]
    rfl
  have hi28 : ∀ x, (rk_ui (rk_ui (rk_ui I 31 28 (nI (pl j))) 31 26 (nI (pl j))) 31 25 x) 31 28 = nI (pl j) := fun x => by rw [ui_n (by omega), ui_n (by omega), ui_s]
  have hi26 : ∀ x, (rk_ui (rk_ui (rk_ui I 31 28 (nI (pl j))) 31 26 (nI (pl j))) 31 25 x) 31 26 = nI (pl j) := fun x => by rw [ui_n (by omega), ui_s]
  rcases Nat.lt_or_ge j tc with g | g
  · obtain ⟨a1, a2, a3, a4, a5, a6, a7⟩ := t2 j g
    have hx := (h.2.2.2.2 (pl j) a2).1
    rw [head _ (mb_at hB2 a2), if_pos (show (0 : Int32) ≤ nI (bs (pl j)) from nI_le (a := 0) (by omega) (by omega)), m_le hx, pr_sb]
    rcases a7 with ⟨b1, b2, b3, b4⟩ | ⟨b1, b2, b3, b4⟩ | ⟨b1, b2, b3, b4⟩
    · rw [if_pos (show 97 ≤ bs (pl j) ∧ bs (pl j) ≤ 122 from b1), if_neg (by decide), mw_word (mB_R h (hr3 1)) (hi28 1) a5 a6 b2 b3, cq_b3]
      refine ⟨_, _, rfl, ⟨?_, fun _ _ => ui_s, ?_⟩, mR_t (hr3 1) (mR_u (by omega)), mJ_u⟩
      · rw [ui_n (by omega)]; exact hi26 1
      · rw [ui_n (by omega), ui_s, uj_s]
        rcases b4 with ⟨w, c1, c2, c3⟩ | ⟨c1, c2⟩
        · refine Or.inl ⟨by omega, rfl, ?_⟩
          have hlen : st (j + 1) - pl j = (tz_wd w).length := by rw [← c2]; simp [tz_sl]
          have h6 := (wv_let w c1).1
          unfold mwl
          rw [if_pos (by omega), c3, (wv_iff c1 b2).mpr c2]
        · refine Or.inr (Or.inr (Or.inl ⟨c2, Or.inr ⟨rfl, fun w hw => ?_⟩⟩))
          unfold mwl
          by_cases h8 : st (j + 1) - pl j ≤ 8
          · rw [if_pos h8]
            intro z
            have hlt := tw_lt (fun i => bs (pl j + i)) (st (j + 1) - pl j) (fun i hi => b2 (pl j + i) (by omega) (by omega))
            have h27 : 27 ^ (st (j + 1) - pl j) ≤ 27 ^ 8 := Nat.pow_le_pow_right (by omega) h8
            have := (fb_lN_inj (by omega) (mk_lt w hw)).mp z
            exact c1 w hw ((wv_iff hw b2).mp this)
          · rw [if_neg h8]
            exact mk_m1 w hw
    · rw [if_neg (show ¬ (97 ≤ bs (pl j) ∧ bs (pl j) ≤ 122) by unfold tz_di at b1; omega), if_pos rfl, m_di hx, pr_sb, if_pos (show 48 ≤ bs (pl j) ∧ bs (pl j) ≤ 57 from b1), if_neg (by decide), mw_num (mB_R h (hr3 2)) (hi28 2) a5 a6 b2 b3, cq_b3]
      rcases b4 with ⟨c1, c2⟩ | ⟨c1, c2⟩
      · rw [if_pos (show nI (st (j + 1) - pl j) ≤ 4 from nI_le (b := 4) c1 (by omega))]
        have hn := te_num_lt bs (pl j) (st (j + 1) - pl j) (fun i a b => (b2 i a (by omega)).2)
        have hn2 : tz_nm bs (pl j) (st (j + 1) - pl j) < 10 ^ 4 := Nat.lt_of_lt_of_le hn (Nat.pow_le_pow_right (by omega) c1)
        refine ⟨_, _, rfl, ⟨?_, fun _ _ => ?_, ?_⟩, mR_t (mR_t (hr3 2) (mR_u (by omega))) (mR_u (by omega)), mJ_u⟩
        · rw [ui_n (by omega), ui_n (by omega)]; exact hi26 2
        · rw [ui_n (by omega), ui_s]
        · rw [ui_s, uj_s, if_pos c1]
          exact Or.inr (Or.inr (Or.inr (Or.inl ⟨by omega, by omega, rfl, by rw [c2]; congr 1; omega⟩)))
      · rw [if_neg (show ¬ nI (st (j + 1) - pl j) ≤ 4 from nI_ge (a := 4) (by omega) (by omega))]
        refine ⟨_, _, rfl, ⟨?_, fun _ _ => ?_, ?_⟩, mR_t (mR_t (hr3 2) (mR_u (by omega))) (mR_u (by omega)), mJ_u⟩
        · rw [ui_n (by omega), ui_n (by omega)]; exact hi26 2
        · rw [ui_n (by omega), ui_s]
        · rw [ui_s]
          exact Or.inr (Or.inr (Or.inl ⟨c2, Or.inl rfl⟩))
    · rw [if_neg (show ¬ (97 ≤ bs (pl j) ∧ bs (pl j) ≤ 122) from b1), if_pos rfl, m_di hx, pr_sb, if_neg (show ¬ (48 ≤ bs (pl j) ∧ bs (pl j) ≤ 57) from b2), if_pos rfl]
      rcases b4 with ⟨c1, c2⟩ | ⟨c1, c2⟩
      · rw [mc_sign hx c1]
        unfold f_X10_next_j351
        rw [pr_sb, pr_sb, pr_sb, ui_tw, ui_n (by omega : 28 ≠ 25), ui_n (by omega : 28 ≠ 26), ui_s, nI_1]
        refine ⟨_, _, rfl, ⟨?_, fun _ _ => ?_, ?_⟩, mR_t (hr3 3) (mR_u (by omega)), mJ_u⟩
        · rw [ui_n (by omega)]; exact hi26 3
        · rw [ui_s, b3]
        · rw [ui_n (by omega), ui_s, uj_s, c2, nI_l (by omega)]
          exact Or.inr (Or.inr (Or.inr (Or.inr ⟨c1, rfl, rfl⟩)))
      · rw [mc_none hx c1]
        refine ⟨_, _, rfl, ⟨hi26 4, fun _ z => absurd c2 z, ?_⟩, hr3 4, fun _ _ _ => rfl⟩
        · rw [ui_s]
          exact Or.inr (Or.inr (Or.inl ⟨c2, Or.inl rfl⟩))
  · have : j = tc := by omega
    subst this
    rw [head _ (mb_end hB2 (by omega) (by omega)), if_neg (by decide)]
    refine ⟨_, _, rfl, ⟨?_, fun z _ => by omega, ?_⟩, mR_t (hr3 0) (mR_u (by omega)), fun _ _ _ => rfl⟩
    · rw [ui_s, ui_n (by omega), ui_n (by omega), ui_n (by omega), t5]
      exact h.2.2.2.1
    · rw [ui_n (by omega), ui_s]
      exact Or.inr (Or.inl ⟨t6, rfl⟩)
end MX
