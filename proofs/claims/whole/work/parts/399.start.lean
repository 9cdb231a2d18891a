/-! THE START: both objects as they are made, and the invariant -/
theorem i9_LC (S : rk_Sh) (R : rk_R) : rk_LC (i9_S (rk_sh S 0 8 17)) (i9_R R) := by
  refine ⟨fun k hk => ?_, fun k i q h => ?_⟩
  · match k, hk with
    | 0, _ => rfl
    | 1, _ => rfl
    | 2, _ => rfl
    | 3, _ => rfl
    | 4, _ => rfl
    | 5, _ => rfl
    | 6, _ => rfl
    | 7, _ => rfl
    | 8, _ => rfl
    | 9, _ => rfl
    | 10, _ => rfl
    | 11, _ => rfl
    | 12, _ => rfl
    | 13, _ => rfl
    | 14, _ => rfl
    | 15, _ => rfl
    | 16, _ => rfl
    | 17, _ => rfl
    | 18, _ => rfl
    | 19, _ => rfl
    | 20, _ => rfl
    | 21, _ => rfl
    | 22, _ => rfl
    | 23, _ => rfl
    | 24, _ => rfl
    | 25, _ => rfl
    | 26, _ => rfl
    | 27, _ => rfl
    | k + 28, h => omega
  · unfold rk_cR at h
    split at h <;> first | (cases h; rfl) | cases h
theorem t0_len : f_J0_length_8abf5_1000001 = some (nI 45) := by
  unfold f_J0_length_8abf5_1000001 f_J0_coder_7d493_1000001
  rfl
theorem t0_ch : ∀ i, i < 45 → f_J0_charAt_5068e_1000001 (nI i) = some (nI (t0_b i)) := by
  decide
theorem i9_loop {S : rk_Sh} {I : rk_I} {J : rk_J} {R : rk_R} (hL : rk_LC S R) (h41 : I 4 1 = nI 0) : rk_while (fun a9 : Int32 × rk_I => f_X9_init_l118 S a9.2 J R a9.1) (0, I) = some (nI 45, fd_F I 5 4 1 0 (fun j => nI (t0_b j)) 45) := by
  have z : ((0 : Int32), I) = (fun k => (nI k, fd_F I 5 4 1 0 (fun j => nI (t0_b j)) k)) 0 := by
    show _ = (nI 0, fd_F I 5 4 1 0 (fun j => nI (t0_b j)) 0)
    rw [fd_zero h41 (by omega)]
    rfl
  rw [z]
  refine pr_run (f := fun a9 : Int32 × rk_I => f_X9_init_l118 S a9.2 J R a9.1) (fun k => (nI k, fd_F I 5 4 1 0 (fun j => nI (t0_b j)) k)) 45 ?_ ?_
  · intro k hk
    show f_X9_init_l118 S (fd_F I 5 4 1 0 (fun j => nI (t0_b j)) k) J R (nI k) = _
    have hs := fd_step (I := I) (p := 5) (q := 4) (f := 1) (b := 0) (B := fun j => nI (t0_b j)) (k := k) (by omega)
    have hc := fd_c (I := fd_F I 5 4 1 0 (fun j => nI (t0_b j)) k) (b := 0 + k) (by omega) (fd_cnt (by omega)) (nI (t0_b k))
    unfold f_X9_init_l118
    rw [t0_len, pr_sb, if_neg (nI_ge hk (by omega)), pr_ck (hL.1 0 (by omega)), pr_sb, pr_ckR (hL.2 0 7 4 rfl), pr_sb, t0_ch k hk, pr_sb, pr_ck (hL.1 4 (by omega)), pr_sb, pr_layC hL, pr_sb, hc, pr_sb, nI_1, hs]
  · show f_X9_init_l118 S (fd_F I 5 4 1 0 (fun j => nI (t0_b j)) 45) J R (nI 45) = _
    unfold f_X9_init_l118
    rw [t0_len, pr_sb, if_pos (nI_le (Nat.le_refl _) (by omega))]
def t0_c : List Nat := [100, 1, 150, 45, 60] ++ [100] ++ [1, 120, 60]
theorem in_c (S : rk_Sh) (I : rk_I) (J : rk_J) (R : rk_R) : ∃ S' I' J' R', f_X9_init (rk_sh S 0 8 17) (rk_zi I 0) (rk_zj J 0) (rk_zr R 0) = some (S', I', J', R') ∧ rk_LC S' R' ∧ S' 28 = (7, 2) ∧ S' 29 = (20, 9) ∧ S' 30 = (20, 3) ∧ R' 3 0 = some 28 ∧ R' 28 0 = some 29 ∧ R' 28 1 = some 30 ∧ (∀ i, i ≠ 5 → I' 0 i = 0) ∧ I' 0 5 = 1 ∧ I' 4 1 = 0 ∧ (∀ q, q < 4 → I' (20 + 2 * q) 1 = -1) ∧ (∀ i, i < 9 → I' 29 i = nI (t0_c.getD i 0)) ∧ I' 30 0 = nI 5 ∧ I' 30 1 = nI 6 ∧ I' 30 2 = nI 9 := by
  rw [i9_a]
  have hL : rk_LC (i9_S (rk_sh S 0 8 17)) (i9_R (rk_zr R 0)) := i9_LC S (rk_zr R 0)
  have v0 : ∀ i, i9_I (rk_zi I 0) 0 i = 0 := fun i => rfl
  have v4 : i9_I (rk_zi I 0) 4 1 = nI 0 := rfl
  have vq : ∀ q, q < 4 → i9_I (rk_zi I 0) (20 + 2 * q) 1 = -1 := fun q hq => by
    rcases (by omega : q = 0 ∨ q = 1 ∨ q = 2 ∨ q = 3) with rfl | rfl | rfl | rfl <;> rfl
  generalize i9_S (rk_sh S 0 8 17) = S1 at hL ⊢
  generalize i9_R (rk_zr R 0) = R1 at hL ⊢
  generalize i9_I (rk_zi I 0) = I1 at v0 v4 vq ⊢
  generalize i9_J (rk_zj J 0) = J1
  have hlo := i9_loop (J := J1) hL v4
  have hF : ∀ q i, q ≠ 5 → ¬ (q = 4 ∧ i = 1) → fd_F I1 5 4 1 0 (fun j => nI (t0_b j)) 45 q i = I1 q i := fun q i a b => by
    unfold fd_F
    rw [if_neg a, if_neg b]
  have hW : wB t0_b 45 (fd_F I1 5 4 1 0 (fun j => nI (t0_b j)) 45) := by
    refine ⟨by omega, fd_cnt (by omega), fun i hi => ⟨t0_lt i (by omega), ?_⟩⟩
    unfold fd_F
    rw [if_pos rfl, if_pos (by omega)]
    rfl
  obtain ⟨I5, e5, k5, x8, xc, x90, x91, x92⟩ := t0_read hW
  obtain ⟨S6, I6, J6, R6, a1, a2, a3, a4, a5, a6, a7, a8, a9, a10, a11, a12⟩ := at_text (n := 28) (S := S1) (I := I5) (J := J1) (R := R1) (by omega) (by omega) (by omega) x8 hL
  have hL2 : rk_LC S6 (rk_ur R6 3 0 (some 28)) := LC_new a2 (fun _ _ => rfl) (fun k _ _ _ h3 => by rw [ur_o h3])
  have w0 : ∀ i, I6 0 i = 0 := fun i => by
    rw [a7 0 (by omega), k5 0 i (by omega) (by omega) (by omega) (by omega) (by omega), hF 0 i (by omega) (by omega), v0]
  refine ⟨S6, rk_ui (rk_ui I6 0 5 1) 4 1 0, J6, rk_ur R6 3 0 (some 28), ?_, hL2, a4, a5, a6, ur_s, ?_, ?_, fun i hi => ?_, ?_, ui_s, fun q hq => ?_, fun i hi => ?_, ?_, ?_, ?_⟩
  · unfold i9_N f_X2_empty
    rw [hlo, cq_b2, pr_ck (hL.1 0 (by omega)), pr_sb, pr_ckR (hL.2 0 7 4 rfl), pr_sb, pr_ck (hL.1 4 (by omega)), pr_sb, pr_layC hL, pr_sb, e5, cq_b2, pr_ckR (hL.2 0 4 3 rfl), pr_sb, pr_sb, a1, pr_b6, pr_ck (a2.1 3 (by omega)), pr_sb, pr_ck a4, pr_sb, show rk_wrR R6 3 6 0 28 = _ from pr_wrR (i := 0) (by omega) (by omega), pr_sb, pr_ck (a2.1 0 (by omega)), pr_sb, pr_sb, pr_ckR (hL2.2 0 7 4 rfl), pr_sb, pr_ck (a2.1 4 (by omega)), pr_sb, pr_layC hL2, pr_sb, pr_sb, pr_sb]
    rfl
  · rw [ur_o (by omega)]; exact a11
  · rw [ur_o (by omega)]; exact a12
  · rw [ui_o (by omega), ui_n hi]; exact w0 i
  · rw [ui_o (by omega), ui_s]
  · rw [ui_o (by omega), ui_o (by omega), a7 _ (by omega), k5 _ 1 (by omega) (by omega) (by omega) (by omega) (by omega), hF _ 1 (by omega) (by omega)]
    exact vq q hq
  · rw [ui_o (by omega), ui_o (by omega), a8 i hi, xc i hi]
    rfl
  · rw [ui_o (by omega), ui_o (by omega), a9 0, x90]
  · rw [ui_o (by omega), ui_o (by omega), a9 1, x91]
  · rw [ui_o (by omega), ui_o (by omega), a9 2, x92]
/-! the reference -/
theorem i10_LM (S : rk_Sh) (R : rk_R) : rk_LM (i10_S (rk_sh S 31 9 46)) (i10_R R) := by
  refine ⟨fun k h1 hk => ?_, fun k i q h => ?_⟩
  · obtain ⟨j, rfl⟩ : ∃ j, k = 31 + j := ⟨k - 31, by omega⟩
    have hj : j < 26 := by omega
    match j, hj with
    | 0, _ => rfl
    | 1, _ => rfl
    | 2, _ => rfl
    | 3, _ => rfl
    | 4, _ => rfl
    | 5, _ => rfl
    | 6, _ => rfl
    | 7, _ => rfl
    | 8, _ => rfl
    | 9, _ => rfl
    | 10, _ => rfl
    | 11, _ => rfl
    | 12, _ => rfl
    | 13, _ => rfl
    | 14, _ => rfl
    | 15, _ => rfl
    | 16, _ => rfl
    | 17, _ => rfl
    | 18, _ => rfl
    | 19, _ => rfl
    | 20, _ => rfl
    | 21, _ => rfl
    | 22, _ => rfl
    | 23, _ => rfl
    | 24, _ => rfl
    | 25, _ => rfl
    | j + 26, h => omega
  · unfold rk_mR at h
    split at h <;> first | (cases h; rfl) | cases h
def sw_B (w : Int64) (j : Nat) : Int32 := Int64.toInt32 ((rk_lsr w (56 - (8 * nI j))) &&& 255)
def sw_I (I : rk_I) (a : Nat) (w : Int64) (k : Nat) : rk_I := fun q i => if q = 32 ∧ a ≤ i ∧ i < a + k then sw_B w (i - a) else I q i
theorem sw_o {I : rk_I} {a k q : Nat} {w : Int64} (h : q ≠ 32) : sw_I I a w k q = I q := by
  funext i
  exact if_neg (fun z => h z.1)
theorem sw_s {I : rk_I} {a k : Nat} {w : Int64} : rk_ui (sw_I I a w k) 32 (a + k) (sw_B w k) = sw_I I a w (k + 1) := by
  funext q i
  by_cases hq : q = 32
  · subst hq
    by_cases hi : i = a + k
    · subst hi
      rw [ui_s]
      unfold sw_I
      rw [if_pos (by omega), show a + k - a = k by omega]
    · rw [ui_n hi]
      unfold sw_I
      by_cases h2 : a ≤ i ∧ i < a + k
      · rw [if_pos ⟨rfl, h2⟩, if_pos (by omega)]
      · rw [if_neg (by omega), if_neg (by omega)]
  · rw [ui_o hq, sw_o hq, sw_o hq]
theorem sw_spell {I : rk_I} {a : Nat} {w : Int64} (ha : a ≤ 900) : f_X10_spell I (nI a) w = some (sw_I I a w 8) := by
  have z : ((0 : Int32), I) = (fun k => (nI k, sw_I I a w k)) 0 := by
    show _ = (nI 0, sw_I I a w 0)
    have : sw_I I a w 0 = I := by
      funext q i
      exact if_neg (fun z => by omega)
    rw [this]
    rfl
  unfold f_X10_spell
  rw [z, pr_run (f := fun a9 : Int32 × rk_I => f_X10_spell_l3 a9.2 (nI a) w a9.1) (fun k => (nI k, sw_I I a w k)) 8 (b := (nI 8, sw_I I a w 8)), cq_b2]
  · intro k hk
    show f_X10_spell_l3 (sw_I I a w k) (nI a) w (nI k) = _
    unfold f_X10_spell_l3
    rw [if_neg (show ¬ (8 : Int32) ≤ nI k from nI_ge (b := 8) hk (by omega)), nI_add, pr_wr (by omega) (by omega), pr_sb, nI_1]
    exact congrArg (fun x => some (Sum.inl (nI (k + 1), x))) sw_s
  · show f_X10_spell_l3 (sw_I I a w 8) (nI a) w (nI 8) = _
    unfold f_X10_spell_l3
    rw [if_pos (show (8 : Int32) ≤ nI 8 from nI_le (a := 8) (Nat.le_refl _) (by omega))]
theorem sw_0 : ∀ j, j < 8 → sw_B 7809651206517694524 j = nI (t0_b j) := by decide +kernel
theorem sw_1 : ∀ j, j < 8 → sw_B 2335238957008170272 j = nI (t0_b (8 + j)) := by decide +kernel
theorem sw_2 : ∀ j, j < 8 → sw_B 3832598721210840436 j = nI (t0_b (16 + j)) := by decide +kernel
theorem sw_3 : ∀ j, j < 8 → sw_B 2319389246415402095 j = nI (t0_b (24 + j)) := by decide +kernel
theorem sw_4 : ∀ j, j < 8 → sw_B 8079572559423742012 j = nI (t0_b (32 + j)) := by decide +kernel
theorem sw_5 : ∀ j, j < 8 → sw_B 2319969673038274592 j = nI (t0_b (40 + j)) := by decide +kernel
theorem i10_o {k : Nat} (hk : k < 31) (S : rk_Sh) (I : rk_I) (R : rk_R) : i10_S (rk_sh S 31 9 46) k = S k ∧ i10_I (rk_zi I 31) k = I k ∧ i10_R (rk_zr R 31) k = R k := by
  unfold i10_S i10_I i10_R
  refine ⟨?_, ?_, ?_⟩
  · simp (disch := omega) only [sh_o]
  · simp (disch := omega) only [zi_o]
  · simp (disch := omega) only [ur_o, zr_o]
theorem in_m (S : rk_Sh) (I : rk_I) (J : rk_J) (R : rk_R) : ∃ S' I' J' R', f_X10_init (rk_sh S 31 9 46) (rk_zi I 31) (rk_zj J 31) (rk_zr R 31) = some (S', I', J', R') ∧ rk_LM S' R' ∧ (∀ k, k < 31 → S' k = S k ∧ I' k = I k ∧ R' k = R k) ∧ (∀ i, i ≠ 3 → I' 31 i = 0) ∧ I' 31 3 = 1 ∧ I' 33 0 = nI 48 ∧ (∀ i, i < 48 → I' 32 i = nI (t0_b i)) ∧ ∀ i, I' 53 i = 0 := by
  rw [i10_a]
  have hL : rk_LM (i10_S (rk_sh S 31 9 46)) (i10_R (rk_zr R 31)) := i10_LM S (rk_zr R 31)
  have ho := fun k (hk : k < 31) => i10_o hk S I R
  have v31 : ∀ i, i10_I (rk_zi I 31) 31 i = 0 := fun i => rfl
  have v53 : ∀ i, i10_I (rk_zi I 31) 53 i = 0 := fun i => rfl
  generalize i10_S (rk_sh S 31 9 46) = S1 at hL ho ⊢
  generalize i10_R (rk_zr R 31) = R1 at hL ho ⊢
  generalize i10_I (rk_zi I 31) = I1 at v31 v53 ho ⊢
  generalize i10_J (rk_zj J 31) = J1
  obtain ⟨I2, e2⟩ : ∃ I2, I2 = sw_I (sw_I (sw_I (sw_I (sw_I (sw_I I1 0 7809651206517694524 8) 8 2335238957008170272 8) 16 3832598721210840436 8) 24 2319389246415402095 8) 32 8079572559423742012 8) 40 2319969673038274592 8 := ⟨_, rfl⟩
  have hq : ∀ q, q ≠ 32 → I2 q = I1 q := fun q h => by rw [e2, sw_o h, sw_o h, sw_o h, sw_o h, sw_o h, sw_o h]
  have h32 : ∀ i, i < 48 → I2 32 i = nI (t0_b i) := fun i hi => by
    rw [e2]
    unfold sw_I
    rcases (by omega : 40 ≤ i ∨ (32 ≤ i ∧ i < 40) ∨ (24 ≤ i ∧ i < 32) ∨ (16 ≤ i ∧ i < 24) ∨ (8 ≤ i ∧ i < 16) ∨ i < 8) with h | h | h | h | h | h
    · rw [if_pos (by omega), sw_5 (i - 40) (by omega), show 40 + (i - 40) = i by omega]
    · rw [if_neg (by omega), if_pos (by omega), sw_4 (i - 32) (by omega), show 32 + (i - 32) = i by omega]
    · rw [if_neg (by omega), if_neg (by omega), if_pos (by omega), sw_3 (i - 24) (by omega), show 24 + (i - 24) = i by omega]
    · rw [if_neg (by omega), if_neg (by omega), if_neg (by omega), if_pos (by omega), sw_2 (i - 16) (by omega), show 16 + (i - 16) = i by omega]
    · rw [if_neg (by omega), if_neg (by omega), if_neg (by omega), if_neg (by omega), if_pos (by omega), sw_1 (i - 8) (by omega), show 8 + (i - 8) = i by omega]
    · rw [if_neg (by omega), if_neg (by omega), if_neg (by omega), if_neg (by omega), if_neg (by omega), if_pos (by omega), sw_0 (i - 0) (by omega), Nat.sub_zero]
  refine ⟨S1, rk_ui (rk_ui I2 33 0 48) 31 3 1, J1, R1, ?_, hL, fun k hk => ⟨(ho k hk).1, ?_, (ho k hk).2.2⟩, fun i hi => ?_, ui_s, ?_, fun i hi => ?_, fun i => ?_⟩
  · unfold i10_N
    rw [pr_layM hL, pr_sb, show f_X10_spell I1 0 7809651206517694524 = _ from sw_spell (a := 0) (by omega), pr_sb, show ∀ I, f_X10_spell I 8 2335238957008170272 = _ from fun I => sw_spell (a := 8) (by omega), pr_sb, show ∀ I, f_X10_spell I 16 3832598721210840436 = _ from fun I => sw_spell (a := 16) (by omega), pr_sb, show ∀ I, f_X10_spell I 24 2319389246415402095 = _ from fun I => sw_spell (a := 24) (by omega), pr_sb, show ∀ I, f_X10_spell I 32 8079572559423742012 = _ from fun I => sw_spell (a := 32) (by omega), pr_sb, show ∀ I, f_X10_spell I 40 2319969673038274592 = _ from fun I => sw_spell (a := 40) (by omega), pr_sb, ← e2, pr_ckR (hL.2 31 2 33 rfl), pr_sb, pr_ck (hL.1 33 (by omega) (by omega)), pr_sb, show rk_wr I2 33 6 0 48 = _ from pr_wr (i := 0) (by omega) (by omega), pr_sb, pr_sb]
  · rw [ui_o (by omega), ui_o (by omega), hq k (by omega)]
    exact (ho k hk).2.1
  · rw [ui_n hi, ui_o (by omega), hq 31 (by omega)]
    exact v31 i
  · rw [ui_o (by omega), ui_s]
    rfl
  · rw [ui_o (by omega), ui_o (by omega)]
    exact h32 i hi
  · rw [ui_o (by omega), ui_o (by omega), hq 53 (by omega)]
    exact v53 i
/-! the invariant at the start -/
theorem st_iv {S S' : rk_Sh} {I I' : rk_I} {R R' : rk_R} (h1 : rk_LC S R) (s28 : S 28 = (7, 2)) (s29 : S 29 = (20, 9)) (s30 : S 30 = (20, 3)) (r3 : R 3 0 = some 28) (r28 : R 28 0 = some 29) (r28' : R 28 1 = some 30) (i0 : ∀ i, i ≠ 5 → I 0 i = 0) (i05 : I 0 5 = 1) (i41 : I 4 1 = 0) (iq : ∀ q, q < 4 → I (20 + 2 * q) 1 = -1) (i29 : ∀ i, i < 9 → I 29 i = nI (t0_c.getD i 0)) (i300 : I 30 0 = nI 5) (i301 : I 30 1 = nI 6) (i302 : I 30 2 = nI 9) (h2 : rk_LM S' R') (ho : ∀ k, k < 31 → S' k = S k ∧ I' k = I k ∧ R' k = R k) (m31 : ∀ i, i ≠ 3 → I' 31 i = 0) (m3 : I' 31 3 = 1) (m33 : I' 33 0 = nI 48) (m32 : ∀ i, i < 48 → I' 32 i = nI (t0_b i)) (m53 : ∀ i, I' 53 i = 0) : iv 57 S' I' R' := by
  have e0 : I' 0 = I 0 := (ho 0 (by omega)).2.1
  refine ⟨0, 0, 1, 0, fun _ => 0, fun _ => 0, fun _ => 28, fun _ _ => 0, fun _ _ => 0, LC_new h1 (fun k hk => (ho k (by omega)).1) (fun k hk _ _ _ => (ho k (by omega)).2.2), h2, Nat.le_refl _, by omega, ⟨by omega, by omega, fun k hk => by omega, fun k hk => by omega⟩, ⟨⟨fun k hk => by omega, fun k hk => by omega, fun i j hi => by omega, fun i j hi => by omega⟩, ?_, ?_, fun k hk => by omega, fun k hk => by omega⟩, ⟨m31 10 (by omega), m31 20 (by omega), fun k hk => by omega, fun k hk => by omega⟩, ⟨by omega, by omega, ?_, m3, by omega, ?_, m31 4 (by omega), fun k hk => ?_⟩, ⟨0, by omega, ?_, m31 6 (by omega), fun i hi => by omega⟩, fun q hq => Or.inl ⟨?_, m53 q⟩, ⟨0, 0, 0, 0, by omega, ?_, m31 38 (by omega), by omega, ?_, m31 39 (by omega), by omega, ?_, m31 40 (by omega), by omega, ?_, m31 41 (by omega), fun k hk => by omega, fun k hk => by omega⟩⟩
  · rw [e0]; exact i0 1 (by omega)
  · rw [e0]; exact i0 3 (by omega)
  · rw [e0]; exact i05
  · rw [e0]; exact i0 6 (by omega)
  · have hk0 : k = 0 := by omega
    subst hk0
    refine ⟨by rw [(ho 3 (by omega)).2.2]; exact r3, Or.inl rfl, by rw [(ho 28 (by omega)).1]; exact s28, by rw [(ho 28 (by omega)).2.2]; exact r28, by rw [(ho 28 (by omega)).2.2]; exact r28', by rw [(ho 30 (by omega)).1]; exact s30, 9, 48, by rw [(ho 29 (by omega)).1]; exact s29, m33, t0_b, t0_k, t0_p 48, t0_s, 15, [100, 1, 150, 45, 60], [100], [1, 120, 60], by omega, fun i hi => ⟨t0_lt i hi, ?_⟩, t0_T48, t0_g, rfl, by omega, fun i hi => ?_, ?_, ?_, ?_⟩
    · show I' 32 (160 * 0 + i) = _
      rw [Nat.mul_zero, Nat.zero_add]
      exact m32 i hi
    · show I' 29 i = _
      rw [(ho 29 (by omega)).2.1]
      exact i29 i hi
    · show I' 30 0 = _
      rw [(ho 30 (by omega)).2.1]
      exact i300
    · show I' 30 1 = _
      rw [(ho 30 (by omega)).2.1]
      exact i301
    · show I' 30 2 = _
      rw [(ho 30 (by omega)).2.1]
      exact i302
  · rw [(ho 4 (by omega)).2.1]; exact i41
  · rw [(ho (20 + 2 * q) (by omega)).2.1]; exact iq q hq
  · rw [e0]; exact i0 13 (by omega)
  · rw [e0]; exact i0 14 (by omega)
  · rw [e0]; exact i0 15 (by omega)
  · rw [e0]; exact i0 16 (by omega)
/-- THE LAW ANSWERS 1 -/
theorem lw_yes {L : Nat} {xs : Nat → Int32} (hL : L ≤ 3072) (S : rk_Sh) (I : rk_I) (J : rk_J) (R : rk_R) : ∃ n1 S1 I1 J1 R1, f_L_law_1000000 L xs 0 S I J R = some (1, n1, S1, I1, J1, R1) := by
  obtain ⟨S2, I2, J2, R2, e2, h1, s28, s29, s30, r3, r28, r28', i0, i05, i41, iq, i29, i300, i301, i302⟩ := in_c S I J R
  obtain ⟨S4, I4, J4, R4, e4, h2, ho, m31, m3, m33, m32, m53⟩ := in_m S2 I2 J2 R2
  obtain ⟨s1, n1, S1, I1, J1, R1, e⟩ := lw_loop (xs := xs) (J := J4) hL (st_iv h1 s28 s29 s30 r3 r28 r28' i0 i05 i41 iq i29 i300 i301 i302 h2 ho m31 m3 m33 m32 m53)
  refine ⟨n1, S1, I1, J1, R1, ?_⟩
  unfold f_L_law_1000000
  rw [pr_sb, pr_sb, pr_sb, pr_sb, e2, pr_b4, pr_sb, pr_sb, pr_sb, pr_sb, e4, pr_b4, e]
  rfl
