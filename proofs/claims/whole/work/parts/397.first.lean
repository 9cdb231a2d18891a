/-! THE LAW'S LOOP TO ITS END; TOKENS ARE ONE; THE FIRST TEXT -/
theorem lw_loop {L : Nat} {xs : Nat → Int32} (hL : L ≤ 3072) {S : rk_Sh} {I : rk_I} {J : rk_J} {R : rk_R} (h : iv 57 S I R) : ∃ s1 n1 S1 I1 J1 R1, rk_loop (fun a9 : Int32 × Nat × rk_Sh × rk_I × rk_J × rk_R => f_L_law_1000000_l18 L xs a9.2.1 a9.2.2.1 a9.2.2.2.1 a9.2.2.2.2.1 a9.2.2.2.2.2 a9.1) 513 (0, 57, S, I, J, R) = some (.inl (s1, n1, S1, I1, J1, R1)) := by
  have hw := pr_lfor (f := fun a9 : Int32 × Nat × rk_Sh × rk_I × rk_J × rk_R => f_L_law_1000000_l18 L xs a9.2.1 a9.2.2.1 a9.2.2.2.1 a9.2.2.2.2.1 a9.2.2.2.2.2 a9.1) (fun k a => ∃ n S I J R, a = (nI (6 * k), n, S, I, J, R) ∧ iv n S I R) (L / 6) (fun b => ∃ s1 n1 S1 I1 J1 R1, b = .inl (s1, n1, S1, I1, J1, R1)) (fun k a hk hP => by
    obtain ⟨n, S, I, J, R, rfl, hi⟩ := hP
    obtain ⟨n1, S1, I1, J1, R1, e, hi1⟩ := lw_turn (xs := xs) (J := J) hL (show 6 * k + 6 ≤ L by omega) hi
    exact Or.inl ⟨_, e, n1, S1, I1, J1, R1, by rw [show 6 * (k + 1) = 6 * k + 6 by omega], hi1⟩) (fun a hP => by
    obtain ⟨n, S, I, J, R, rfl, hi⟩ := hP
    refine ⟨.inl (nI (6 * (L / 6)), n, S, I, J, R), ?_, nI (6 * (L / 6)), n, S, I, J, R, rfl⟩
    show f_L_law_1000000_l18 L xs n S I J R (nI (6 * (L / 6))) = _
    unfold f_L_law_1000000_l18
    rw [if_pos]
    rw [fa_lt, show ((Int32.ofNat L) - 6).toInt = (L : Int) - (6 : Nat) from pk_sub_toInt (a := L) (b := 6) (by omega) (by omega), nI_toInt (by omega)]
    omega) (L / 6) 0 (0, 57, S, I, J, R) 513 (by omega) (by omega) ⟨57, S, I, J, R, rfl, h⟩
  obtain ⟨b, e, s1, n1, S1, I1, J1, R1, rfl⟩ := hw
  exact ⟨s1, n1, S1, I1, J1, R1, e⟩
theorem tz_wdI : ∀ w, w < 12 → ∀ v, v < 12 → tz_wd w = tz_wd v → w = v := by decide
theorem tz_tk1 {bs : Nat → Nat} {sz p e e2 t t2 : Nat} (h : tz_tk bs sz p e t) (h2 : tz_tk bs sz p e2 t2) (a : p < e) (a2 : p < e2) (b : e ≤ sz) (b2 : e2 ≤ sz) : e = e2 ∧ t = t2 := by
  have run : ∀ c : Nat → Prop, (∀ i, p ≤ i → i < e → c (bs i)) → (e < sz → ¬ c (bs e)) → (∀ i, p ≤ i → i < e2 → c (bs i)) → (e2 < sz → ¬ c (bs e2)) → e = e2 := fun c c1 c2 c3 c4 => by
    rcases Nat.lt_trichotomy e e2 with g | g | g
    · exact absurd (c3 e (by omega) g) (c2 (by omega))
    · exact g
    · exact absurd (c1 e2 (by omega) g) (c4 (by omega))
  rcases h with ⟨h1, h3, h4, h5⟩ | ⟨h1, h3, h4, h5⟩ | ⟨h1, h3, h4, h5⟩
  · rcases h2 with ⟨g1, g3, g4, g5⟩ | ⟨g1, g3, g4, g5⟩ | ⟨g1, g3, g4, g5⟩
    · have he := run tz_le h3 h4 g3 g4
      subst he
      refine ⟨rfl, ?_⟩
      rcases h5 with ⟨w, w1, w2, w3⟩ | ⟨w1, w3⟩
      · rcases g5 with ⟨v, v1, v2, v3⟩ | ⟨v1, v3⟩
        · rw [w3, v3]
          exact tz_wdI w w1 v v1 (by rw [← w2, ← v2])
        · exact absurd w2 (v1 w w1)
      · rcases g5 with ⟨v, v1, v2, v3⟩ | ⟨v1, v3⟩
        · exact absurd v2 (w1 v v1)
        · rw [w3, v3]
    · unfold tz_le at h1
      unfold tz_di at g1
      omega
    · exact absurd h1 g1
  · rcases h2 with ⟨g1, g3, g4, g5⟩ | ⟨g1, g3, g4, g5⟩ | ⟨g1, g3, g4, g5⟩
    · unfold tz_le at g1
      unfold tz_di at h1
      omega
    · have he := run tz_di h3 h4 g3 g4
      subst he
      exact ⟨rfl, by omega⟩
    · exact absurd h1 g3
  · rcases h2 with ⟨g1, g3, g4, g5⟩ | ⟨g1, g3, g4, g5⟩ | ⟨g1, g3, g4, g5⟩
    · exact absurd g1 h1
    · exact absurd g1 h3
    · refine ⟨by omega, ?_⟩
      rcases h5 with ⟨w1, w2⟩ | ⟨w1, w2⟩
      · rcases g5 with ⟨v1, v2⟩ | ⟨v1, v2⟩
        · rw [w2, v2]
        · exact absurd w1 v1
      · rcases g5 with ⟨v1, v2⟩ | ⟨v1, v2⟩
        · exact absurd v1 w1
        · rw [w2, v2]
section TO
variable {bs : Nat → Nat} {sz : Nat} {tk pl st tk2 pl2 st2 : Nat → Nat} {tc tc2 : Nat}
theorem tz_at (h : tz_T bs sz tk pl st tc) (h2 : tz_T bs sz tk2 pl2 st2 tc2) {j : Nat} (hj : j < tc) (hj2 : j ≤ tc2) (hs : st j = st2 j) : j < tc2 ∧ st (j + 1) = st2 (j + 1) ∧ tk j = tk2 j := by
  obtain ⟨a1, a2, a3, a4, a5, a6, a7⟩ := h.2.1 j hj
  have hlt : j < tc2 := by
    rcases Nat.lt_or_ge j tc2 with g | g
    · exact g
    · exfalso
      have e : j = tc2 := by omega
      subst e
      exact a4 (h2.2.2.2.1 (pl j) (by omega) a2)
  obtain ⟨b1, b2, b3, b4, b5, b6, b7⟩ := h2.2.1 j hlt
  have hp : pl j = pl2 j := by
    rcases Nat.lt_trichotomy (pl j) (pl2 j) with g | g | g
    · exact absurd (b3 (pl j) (by omega) g) a4
    · exact g
    · exact absurd (a3 (pl2 j) (by omega) g) b4
  rw [← hp] at b7 b5
  obtain ⟨c1, c2⟩ := tz_tk1 a7 b7 a5 b5 a6 b6
  exact ⟨hlt, c1, c2⟩
theorem tz_sts (h : tz_T bs sz tk pl st tc) (h2 : tz_T bs sz tk2 pl2 st2 tc2) : ∀ j, j ≤ tc → j ≤ tc2 ∧ st j = st2 j
  | 0, _ => ⟨Nat.zero_le _, by rw [h.1, h2.1]⟩
  | j + 1, hj => by
    obtain ⟨g1, g2⟩ := tz_sts h h2 j (by omega)
    obtain ⟨k1, k2, -⟩ := tz_at h h2 (by omega) g1 g2
    exact ⟨k1, k2⟩
theorem tz_one (h : tz_T bs sz tk pl st tc) (h2 : tz_T bs sz tk2 pl2 st2 tc2) : tc = tc2 ∧ ∀ j, j ≤ tc → tk j = tk2 j := by
  have a := (tz_sts h h2 tc (Nat.le_refl _)).1
  have b := (tz_sts h2 h tc2 (Nat.le_refl _)).1
  have e : tc = tc2 := by omega
  refine ⟨e, fun j hj => ?_⟩
  rcases Nat.lt_or_ge j tc with g | g
  · obtain ⟨g1, g2⟩ := tz_sts h h2 j hj
    exact (tz_at h h2 g g1 g2).2.2
  · have ej : j = tc := by omega
    rw [ej, h.2.2.2.2.2, e, h2.2.2.2.2.2]
end TO
/-! the first text -/
def t0_L : List Nat := [108, 97, 116, 101, 32, 48, 32, 60, 32, 104, 111, 117, 114, 32, 45, 32, 53, 48, 32, 59, 32, 99, 117, 116, 32, 48, 32, 59, 32, 115, 116, 111, 112, 32, 104, 111, 117, 114, 32, 60, 32, 50, 48, 32, 59, 32, 32, 32]
def t0_b : Nat → Nat := fun i => t0_L.getD i 0
def t0_k : Nat → Nat := fun j => ([9, 100, 60, 1, 45, 150, 59, 10, 100, 59, 11, 1, 60, 120, 59, 20] : List Nat).getD j 0
def t0_p (z : Nat) : Nat → Nat := fun j => ([0, 5, 7, 9, 14, 16, 19, 21, 25, 27, 29, 34, 39, 41, 44] ++ [z] : List Nat).getD j 0
def t0_s : Nat → Nat := fun j => ([0, 4, 6, 8, 13, 15, 18, 20, 24, 26, 28, 33, 38, 40, 43, 45] : List Nat).getD j 0
theorem t0_a45 : ∀ j, j < 15 → t0_s j ≤ t0_p 45 j ∧ t0_p 45 j < 45 ∧ t0_p 45 j < t0_s (j + 1) ∧ t0_s (j + 1) ≤ 45 := by decide +kernel
theorem t0_b45 : ∀ j, j < 15 → ∀ i, i < 50 → t0_s j ≤ i → i < t0_p 45 j → t0_b i = 32 ∨ t0_b i = 10 := by decide +kernel
theorem t0_c45 : ∀ j, j < 15 → ¬ (t0_b (t0_p 45 j) = 32 ∨ t0_b (t0_p 45 j) = 10) := by decide +kernel
theorem t0_e45 : ∀ j, j < 15 → t0_k j < 12 → (97 ≤ t0_b (t0_p 45 j) ∧ t0_b (t0_p 45 j) ≤ 122) ∧ tz_sl t0_b (t0_p 45 j) (t0_s (j + 1)) = tz_wd (t0_k j) := by decide +kernel
theorem t0_f45 : ∀ j, j < 15 → ∀ i, i < 50 → (t0_k j < 12 ∧ t0_p 45 j ≤ i ∧ i < t0_s (j + 1)) → 97 ≤ t0_b i ∧ t0_b i ≤ 122 := by decide +kernel
theorem t0_g45 : ∀ j, j < 15 → t0_k j < 12 → t0_s (j + 1) < 45 → ¬ (97 ≤ t0_b (t0_s (j + 1)) ∧ t0_b (t0_s (j + 1)) ≤ 122) := by decide +kernel
theorem t0_h45 : ∀ j, j < 15 → 100 ≤ t0_k j → (48 ≤ t0_b (t0_p 45 j) ∧ t0_b (t0_p 45 j) ≤ 57) ∧ t0_s (j + 1) - t0_p 45 j ≤ 4 ∧ t0_k j = 100 + tz_nm t0_b (t0_p 45 j) (t0_s (j + 1) - t0_p 45 j) := by decide +kernel
theorem t0_i45 : ∀ j, j < 15 → ∀ i, i < 50 → (100 ≤ t0_k j ∧ t0_p 45 j ≤ i ∧ i < t0_s (j + 1)) → 48 ≤ t0_b i ∧ t0_b i ≤ 57 := by decide +kernel
theorem t0_j45 : ∀ j, j < 15 → 100 ≤ t0_k j → t0_s (j + 1) < 45 → ¬ (48 ≤ t0_b (t0_s (j + 1)) ∧ t0_b (t0_s (j + 1)) ≤ 57) := by decide +kernel
theorem t0_l45 : ∀ j, j < 15 → 12 ≤ t0_k j → t0_k j < 100 → ¬ (97 ≤ t0_b (t0_p 45 j) ∧ t0_b (t0_p 45 j) ≤ 122) ∧ ¬ (48 ≤ t0_b (t0_p 45 j) ∧ t0_b (t0_p 45 j) ≤ 57) := by decide +kernel
theorem t0_m45 : ∀ j, j < 15 → 12 ≤ t0_k j → t0_k j < 100 → t0_s (j + 1) = t0_p 45 j + 1 ∧ t0_k j = t0_b (t0_p 45 j) := by decide +kernel
theorem t0_n45 : ∀ j, j < 15 → (12 ≤ t0_k j ∧ t0_k j < 100) → (t0_k j = 59 ∨ t0_k j = 45 ∨ t0_k j = 60) := by decide +kernel
theorem t0_z45 : ∀ i, i < 50 → t0_s 15 ≤ i → i < 45 → t0_b i = 32 ∨ t0_b i = 10 := by decide +kernel
theorem t0_T45 : tz_T t0_b 45 t0_k (t0_p 45) t0_s 15 := by
  refine ⟨rfl, fun j hj => ?_, by decide, fun i a b => t0_z45 i (by omega) a b, by decide, by decide⟩
  obtain ⟨a1, a2, a3, a4⟩ := t0_a45 j hj
  refine ⟨a1, a2, fun i b d => t0_b45 j hj i (by omega) b d, t0_c45 j hj, a3, a4, ?_⟩
  by_cases h1 : t0_k j < 12
  · exact Or.inl ⟨(t0_e45 j hj h1).1, fun i c d => t0_f45 j hj i (by omega) ⟨h1, c, d⟩, t0_g45 j hj h1, Or.inl ⟨t0_k j, h1, (t0_e45 j hj h1).2, rfl⟩⟩
  · by_cases h2 : 100 ≤ t0_k j
    · exact Or.inr (Or.inl ⟨(t0_h45 j hj h2).1, fun i c d => t0_i45 j hj i (by omega) ⟨h2, c, d⟩, t0_j45 j hj h2, Or.inl (t0_h45 j hj h2).2⟩)
    · obtain ⟨b1, b2⟩ := t0_l45 j hj (by omega) (by omega)
      obtain ⟨b3, b4⟩ := t0_m45 j hj (by omega) (by omega)
      have b5 := t0_n45 j hj ⟨by omega, by omega⟩
      rw [b4] at b5
      exact Or.inr (Or.inr ⟨b1, b2, b3, Or.inl ⟨by unfold tz_si; omega, b4⟩⟩)
theorem t0_a48 : ∀ j, j < 15 → t0_s j ≤ t0_p 48 j ∧ t0_p 48 j < 48 ∧ t0_p 48 j < t0_s (j + 1) ∧ t0_s (j + 1) ≤ 48 := by decide +kernel
theorem t0_b48 : ∀ j, j < 15 → ∀ i, i < 50 → t0_s j ≤ i → i < t0_p 48 j → t0_b i = 32 ∨ t0_b i = 10 := by decide +kernel
theorem t0_c48 : ∀ j, j < 15 → ¬ (t0_b (t0_p 48 j) = 32 ∨ t0_b (t0_p 48 j) = 10) := by decide +kernel
theorem t0_e48 : ∀ j, j < 15 → t0_k j < 12 → (97 ≤ t0_b (t0_p 48 j) ∧ t0_b (t0_p 48 j) ≤ 122) ∧ tz_sl t0_b (t0_p 48 j) (t0_s (j + 1)) = tz_wd (t0_k j) := by decide +kernel
theorem t0_f48 : ∀ j, j < 15 → ∀ i, i < 50 → (t0_k j < 12 ∧ t0_p 48 j ≤ i ∧ i < t0_s (j + 1)) → 97 ≤ t0_b i ∧ t0_b i ≤ 122 := by decide +kernel
theorem t0_g48 : ∀ j, j < 15 → t0_k j < 12 → t0_s (j + 1) < 48 → ¬ (97 ≤ t0_b (t0_s (j + 1)) ∧ t0_b (t0_s (j + 1)) ≤ 122) := by decide +kernel
theorem t0_h48 : ∀ j, j < 15 → 100 ≤ t0_k j → (48 ≤ t0_b (t0_p 48 j) ∧ t0_b (t0_p 48 j) ≤ 57) ∧ t0_s (j + 1) - t0_p 48 j ≤ 4 ∧ t0_k j = 100 + tz_nm t0_b (t0_p 48 j) (t0_s (j + 1) - t0_p 48 j) := by decide +kernel
theorem t0_i48 : ∀ j, j < 15 → ∀ i, i < 50 → (100 ≤ t0_k j ∧ t0_p 48 j ≤ i ∧ i < t0_s (j + 1)) → 48 ≤ t0_b i ∧ t0_b i ≤ 57 := by decide +kernel
theorem t0_j48 : ∀ j, j < 15 → 100 ≤ t0_k j → t0_s (j + 1) < 48 → ¬ (48 ≤ t0_b (t0_s (j + 1)) ∧ t0_b (t0_s (j + 1)) ≤ 57) := by decide +kernel
theorem t0_l48 : ∀ j, j < 15 → 12 ≤ t0_k j → t0_k j < 100 → ¬ (97 ≤ t0_b (t0_p 48 j) ∧ t0_b (t0_p 48 j) ≤ 122) ∧ ¬ (48 ≤ t0_b (t0_p 48 j) ∧ t0_b (t0_p 48 j) ≤ 57) := by decide +kernel
theorem t0_m48 : ∀ j, j < 15 → 12 ≤ t0_k j → t0_k j < 100 → t0_s (j + 1) = t0_p 48 j + 1 ∧ t0_k j = t0_b (t0_p 48 j) := by decide +kernel
theorem t0_n48 : ∀ j, j < 15 → (12 ≤ t0_k j ∧ t0_k j < 100) → (t0_k j = 59 ∨ t0_k j = 45 ∨ t0_k j = 60) := by decide +kernel
theorem t0_z48 : ∀ i, i < 50 → t0_s 15 ≤ i → i < 48 → t0_b i = 32 ∨ t0_b i = 10 := by decide +kernel
theorem t0_T48 : tz_T t0_b 48 t0_k (t0_p 48) t0_s 15 := by
  refine ⟨rfl, fun j hj => ?_, by decide, fun i a b => t0_z48 i (by omega) a b, by decide, by decide⟩
  obtain ⟨a1, a2, a3, a4⟩ := t0_a48 j hj
  refine ⟨a1, a2, fun i b d => t0_b48 j hj i (by omega) b d, t0_c48 j hj, a3, a4, ?_⟩
  by_cases h1 : t0_k j < 12
  · exact Or.inl ⟨(t0_e48 j hj h1).1, fun i c d => t0_f48 j hj i (by omega) ⟨h1, c, d⟩, t0_g48 j hj h1, Or.inl ⟨t0_k j, h1, (t0_e48 j hj h1).2, rfl⟩⟩
  · by_cases h2 : 100 ≤ t0_k j
    · exact Or.inr (Or.inl ⟨(t0_h48 j hj h2).1, fun i c d => t0_i48 j hj i (by omega) ⟨h2, c, d⟩, t0_j48 j hj h2, Or.inl (t0_h48 j hj h2).2⟩)
    · obtain ⟨b1, b2⟩ := t0_l48 j hj (by omega) (by omega)
      obtain ⟨b3, b4⟩ := t0_m48 j hj (by omega) (by omega)
      have b5 := t0_n48 j hj ⟨by omega, by omega⟩
      rw [b4] at b5
      exact Or.inr (Or.inr ⟨b1, b2, b3, Or.inl ⟨by unfold tz_si; omega, b4⟩⟩)
theorem t0_g : gp_t t0_k = .inr ([100, 1, 150, 45, 60], [100], [1, 120, 60]) := by decide +kernel
theorem t0_lt : ∀ i, i < 48 → t0_b i < 256 := by decide
theorem t0_out {j : Nat} (h : 15 < j) : t0_k j = 0 := by
  unfold t0_k
  rw [List.getD_eq_getElem?_getD, List.getElem?_eq_none (by simp; omega)]
  rfl
/-- the class reads it -/
theorem t0_read {I : rk_I} (hW : wB t0_b 45 I) : ∃ I5, f_X2_read I = some (-1, I5) ∧ (∀ q i, q ≠ 6 → q ≠ 7 → q ≠ 8 → q ≠ 9 → (q = 4 → i < 2) → I5 q i = I q i) ∧ I5 4 8 = nI 9 ∧ (∀ i, i < 9 → I5 8 i = nI (([100, 1, 150, 45, 60] ++ [100] ++ [1, 120, 60] : List Nat).getD i 0)) ∧ I5 9 0 = nI 5 ∧ I5 9 1 = nI 6 ∧ I5 9 2 = nI 9 := by
  obtain ⟨tk, pl, st, tc, I1, e1, hT, hcT, r1⟩ := sp_split hW
  obtain ⟨u1, u2⟩ := tz_one hT t0_T45
  subst u1
  have hcT2 : cT t0_k pl 15 I1 := by
    obtain ⟨c1, c2, c3, c4⟩ := hcT
    refine ⟨c1, c2, rfl, fun j hj => ?_⟩
    have := c4 j hj
    rw [u2 j hj] at this
    exact this
  obtain ⟨x, I5, e5, r5, hX5⟩ := cx_read e1 hcT2
  unfold cX at hX5
  rw [t0_g] at hX5
  simp only [] at hX5
  obtain ⟨rfl, -, x8, xc, x90, x91, x92⟩ := hX5
  exact ⟨I5, e5, fun q i a b c d f => (r5 q i c d (by omega)).trans (r1 q i a b (by omega)), x8, xc, x90, x91, x92⟩
