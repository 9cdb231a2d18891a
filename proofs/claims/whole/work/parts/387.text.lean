/-! text: what a new text leaves alone -/
def tP (t k i : Nat) : Prop := kp k i ∧ ¬ (k = 0 ∧ i = 5) ∧ ¬ (k = 4 ∧ i = 1) ∧ ¬ (k = 31 ∧ (i = 3 ∨ i = 6)) ∧ ¬ (k = 32 ∧ 160 * t ≤ i ∧ i < 160 * t + 160) ∧ ¬ (k = 33 ∧ i = t)
def tx_B (n : Nat) (ot : Nat → Nat) (S : rk_Sh) (I : rk_I) (R : rk_R) (k : Nat) : Prop := R 3 k = some (ot k) ∧ (ot k = 28 ∨ (57 ≤ ot k ∧ ot k + 2 < n)) ∧ S (ot k) = (7, 2) ∧ R (ot k) 0 = some (ot k + 1) ∧ R (ot k) 1 = some (ot k + 2) ∧ S (ot k + 2) = (20, 3) ∧ ∃ N sz, S (ot k + 1) = (20, N) ∧ I 33 k = nI sz ∧ pv_K (fun i => I 32 (160 * k + i)) sz (I (ot k + 1)) N (I (ot k + 2))
theorem tx_keep {n n' c s t r : Nat} {oc os ot : Nat → Nat} {sv cv : pv_V} {S S' : rk_Sh} {I I' : rk_I} {R R' : rk_R} (h3 : 57 ≤ n) (h6 : pv_X n c s oc os sv cv S I R) (h7 : pv_Y c s sv cv I) (h8 : pv_T n t r ot S I R) (h10 : pv_H I) (h11 : pv_G c s t oc os I) (hn : n ≤ n') (hS : ∀ k, k < n → S' k = S k) (hR : ∀ k, k < n → k ≠ 3 → R' k = R k) (hR3 : ∀ i, i ≠ t → R' 3 i = R 3 i) (hI : ∀ k i, k < n → tP t k i → I' k i = I k i) : pv_X n' c s oc os sv cv S' I' R' ∧ pv_Y c s sv cv I' ∧ pv_H I' ∧ (∀ t', t ≤ t' → pv_G c s t' oc os I') ∧ ∀ k, k < t → tx_B n' ot S' I' R' k := by
  have hO := h6.1
  have hrow : ∀ k, k < n → (∀ i, tP t k i) → I' k = I k := fun k hk hp => by
    funext i
    exact hI k i hk (hp i)
  have hbig : ∀ k, 57 ≤ k → k < n → I' k = I k := fun k a b => hrow k b (fun i => by unfold tP kp; omega)
  refine ⟨?_, ?_, ?_, fun t' ht => ?_, fun k hk => ?_⟩
  · exact mX h6 hn (fun k a b => hS k b) hbig (hI 0 1 (by omega) (by unfold tP kp; omega)) (hI 0 3 (by omega) (by unfold tP kp; omega)) (fun k a b => hR k b (by omega)) (hR 1 (by omega) (by omega)) (hR 2 (by omega) (by omega))
  · exact mY h7 (hI 31 10 (by omega) (by unfold tP kp; omega)) (hI 31 20 (by omega) (by unfold tP kp; omega)) (fun k a b => hrow k (by omega) (fun i => by unfold tP kp; omega))
  · exact mH h10 (fun k a b => hrow k (by omega) (fun i => by unfold tP kp; omega)) (fun k a b => hrow k (by omega) (fun i => by unfold tP kp; omega))
  · refine mG h11 hO (Nat.le_refl _) (Nat.le_refl _) ht (fun _ _ => rfl) (fun _ _ => rfl) (fun k hk => ?_) (fun k hk => ?_) (hI 0 13 (by omega) (by unfold tP kp; omega)) (hI 0 14 (by omega) (by unfold tP kp; omega)) (hI 0 15 (by omega) (by unfold tP kp; omega)) (hI 0 16 (by omega) (by unfold tP kp; omega)) (hI 31 38 (by omega) (by unfold tP kp; omega)) (hI 31 39 (by omega) (by unfold tP kp; omega)) (hI 31 40 (by omega) (by unfold tP kp; omega)) (hI 31 41 (by omega) (by unfold tP kp; omega)) (hrow 50 (by omega) (fun i => by unfold tP kp; omega)) (hrow 51 (by omega) (fun i => by unfold tP kp; omega)) (hrow 52 (by omega) (fun i => by unfold tP kp; omega))
    · have := hO.2.1 k hk
      rw [hbig _ (by omega) (by omega)]
      exact ⟨rfl, rfl⟩
    · have := hO.1 k hk
      exact hbig _ (by omega) (by omega)
  · obtain ⟨g1, g2, g3, g4, g5, g6, N, sz, g7, g8, bs, tk, pl, st, tc, c0, c1, c2, k1, k2, k3⟩ := h8.2.2.2.2.2.2.2 k hk
    have e1 : I' (ot k + 1) = I (ot k + 1) := hrow _ (by omega) (fun i => by unfold tP kp; omega)
    have e2 : I' (ot k + 2) = I (ot k + 2) := hrow _ (by omega) (fun i => by unfold tP kp; omega)
    have e3 : R' (ot k) = R (ot k) := hR _ (by omega) (by omega)
    refine ⟨(hR3 k (by omega)).trans g1, by omega, (hS _ (by omega)).trans g3, by rw [e3]; exact g4, by rw [e3]; exact g5, (hS _ (by omega)).trans g6, N, sz, (hS _ (by omega)).trans g7, (hI 33 k (by omega) (by unfold tP kp; omega)).trans g8, bs, tk, pl, st, tc, c0, c1, c2, k1, fun i hi => ⟨(k2 i hi).1, ?_⟩, by rw [e1, e2]; exact k3⟩
    exact (hI 32 (160 * k + i) (by omega) (by unfold tP kp; omega)).trans (k2 i hi).2
theorem iv_tbad {n c s t r : Nat} {oc os ot : Nat → Nat} {sv cv : pv_V} {S : rk_Sh} {I I' : rk_I} {R : rk_R} (h1 : rk_LC S R) (h2 : rk_LM S R) (h3 : 57 ≤ n) (h4 : n ≤ 57 + 3 * c + s + 3 * t) (h5 : pv_B c s sv cv) (h6 : pv_X n c s oc os sv cv S I R) (h7 : pv_Y c s sv cv I) (h8 : pv_T n t r ot S I R) (h10 : pv_H I) (h11 : pv_G c s t oc os I) (hI : ∀ k i, k < n → tP t k i → I' k i = I k i) (a5 : I' 0 5 = I 0 5) (a3 : I' 31 3 = I 31 3) (a1 : I' 4 1 = 0) (a6 : I' 31 6 = 0) : iv n S I' R := by
  obtain ⟨q1, q2, q3, q4, q5⟩ := tx_keep h3 h6 h7 h8 h10 h11 (Nat.le_refl n) (fun _ _ => rfl) (fun _ _ _ => rfl) (fun _ _ => rfl) hI
  obtain ⟨t1, t2, t3, t4, t5, t6, t7, t8⟩ := h8
  exact ⟨c, s, t, r, oc, os, ot, sv, cv, h1, h2, h3, h4, h5, q1, q2, ⟨t1, t2, a5.trans t3, a3.trans t4, t5, (hI 0 6 (by omega) (by unfold tP kp; omega)).trans t6, (hI 31 4 (by omega) (by unfold tP kp; omega)).trans t7, q5⟩, ⟨0, by omega, a1, a6, fun i hi => absurd hi (Nat.not_lt_zero _)⟩, q3, q4 t (Nat.le_refl _)⟩
theorem iv_tnew {n c s t r : Nat} {oc os ot : Nat → Nat} {sv cv : pv_V} {S S' : rk_Sh} {I I' : rk_I} {R R' : rk_R} (h1 : rk_LC S R) (h2 : rk_LM S R) (h3 : 57 ≤ n) (h4 : n ≤ 57 + 3 * c + s + 3 * t) (h5 : pv_B c s sv cv) (h6 : pv_X n c s oc os sv cv S I R) (h7 : pv_Y c s sv cv I) (h8 : pv_T n t r ot S I R) (h10 : pv_H I) (h11 : pv_G c s t oc os I) (ht : t < 6) (hI : ∀ k i, k < n → tP t k i → I' k i = I k i) (hS : ∀ k, k < n → S' k = S k) (hR : ∀ k, k < n → k ≠ 3 → R' k = R k) (hR3 : ∀ i, i ≠ t → R' 3 i = R 3 i) (a5 : I' 0 5 = nI (t + 1)) (a3 : I' 31 3 = nI (t + 1)) (a1 : I' 4 1 = 0) (a6 : I' 31 6 = 0) (b1 : R' 3 t = some n) (b2 : S' n = (7, 2)) (b3 : R' n 0 = some (n + 1)) (b4 : R' n 1 = some (n + 2)) (b5 : S' (n + 2) = (20, 3)) {N sz : Nat} (b6 : S' (n + 1) = (20, N)) (b7 : I' 33 t = nI sz) (b8 : pv_K (fun i => I' 32 (160 * t + i)) sz (I' (n + 1)) N (I' (n + 2))) : iv (n + 3) S' I' R' := by
  obtain ⟨q1, q2, q3, q4, q5⟩ := tx_keep h3 h6 h7 h8 h10 h11 (by omega : n ≤ n + 3) hS hR hR3 hI
  obtain ⟨t1, t2, t3, t4, t5, t6, t7, t8⟩ := h8
  refine ⟨c, s, t + 1, r, oc, os, fun k => if k = t then n else ot k, sv, cv, LC_new h1 (fun k hk => hS k (by omega)) (fun k hk _ _ a => hR k (by omega) a), LM_new h2 (fun k _ hk => hS k (by omega)) (fun k a hk => hR k (by omega) (by omega)), by omega, by omega, h5, q1, q2, ⟨by omega, by omega, a5, a3, by omega, (hI 0 6 (by omega) (by unfold tP kp; omega)).trans t6, (hI 31 4 (by omega) (by unfold tP kp; omega)).trans t7, fun k hk => ?_⟩, ⟨0, by omega, a1, a6, fun i hi => absurd hi (Nat.not_lt_zero _)⟩, q3, q4 (t + 1) (by omega)⟩
  by_cases hkt : k = t
  · subst hkt
    simp only [if_true]
    exact ⟨b1, Or.inr ⟨h3, by omega⟩, b2, b3, b4, b5, N, sz, b6, b7, b8⟩
  · simp only [hkt, if_false]
    exact q5 k (by omega)
/-! the class makes a text -/
theorem pr_nwa {N B : Nat} (h : N ≤ B) (hB : B < 2147483648) : rk_nwa (nI N) B = some N := by
  unfold rk_nwa
  rw [nI_clamp (by omega), if_neg]
  rintro (z | z)
  · exact nI_pos (by omega) z
  · omega
theorem at_8 {m N : Nat} {S : rk_Sh} {I : rk_I} {J : rk_J} {R : rk_R} (hm : 28 ≤ m) (hm2 : m < 800000) (hN : N ≤ 160) (hL : rk_LC S R) : ∃ I' J' R', f_J7_copyOf_59c91_8 m S I J R (nI N) = some (m, m + 1, rk_sh S m 20 N, I', J', R') ∧ (∀ k, k ≠ m → I' k = I k) ∧ (∀ i, i < N → I' m i = I 8 i) ∧ ∀ k, k ≠ m → R' k = R k := by
  unfold f_J7_copyOf_59c91_8
  by_cases h160 : N = 160
  · subst h160
    refine ⟨fun k => if k = m then I 8 else I k, rk_zj J m, rk_zr R m, ?_, fun k hk => if_neg hk, fun i hi => congrFun (if_pos rfl) i, fun k hk => zr_o hk⟩
    rw [if_pos (show nI 160 = 160 from rfl), pr_nck (by omega), pr_sb, pr_sb, pr_sb, pr_sb, pr_sb, pr_ck sh_s, pr_sb]
  · have hl : rk_LC (rk_sh S m 20 N) (rk_zr R m) := LC_new hL (fun k hk => by rw [sh_o (by omega)]) (fun k hk _ _ _ => by rw [zr_o (by omega)])
    refine ⟨fun k => if k = m then va_cpy (rk_zi I m 8) (rk_zi I m m) 0 0 N else rk_zi I m k, rk_zj J m, rk_zr R m, ?_, fun k hk => ?_, fun i hi => ?_, fun k hk => zr_o hk⟩
    · rw [if_neg (show ¬ nI N = 160 from fun z => h160 ((nI_eq (b := 160) (by omega) (by omega)).mp z)), pr_nwa hN (by omega), pr_sb, pr_nck (by omega), pr_sb, pr_sb, pr_sb, pr_sb, pr_sb, pr_layC hl, pr_sb, pr_al sh_s, pr_sb]
      have e : rk_min 160 (nI N) = nI N := by
        unfold rk_min
        rw [if_pos (show nI N < 160 from nI_lt (b := 160) (by omega) (by omega))]
      rw [e, show rk_cp (rk_zi I m) 8 160 m N 0 0 (nI N) = _ from pr_cp (sp := 0) (dp := 0) (n := N) (by omega) (by omega) (by omega) (by omega)]
      rfl
    · show (if k = m then _ else rk_zi I m k) = _
      rw [if_neg hk, zi_o hk]
    · show (if m = m then va_cpy (rk_zi I m 8) (rk_zi I m m) 0 0 N else rk_zi I m m) i = _
      rw [if_pos rfl, pk_cpy_in (by omega) (by omega), zi_o (by omega), Nat.zero_add, Nat.sub_zero]
theorem at_9 {m : Nat} {S : rk_Sh} {I : rk_I} {J : rk_J} {R : rk_R} (hm2 : m < 800002) : ∃ J', f_J7_copyOf_59c91_9 m S I J R 3 = some (m, m + 1, rk_sh S m 20 3, (fun k => if k = m then I 9 else I k), J', rk_zr R m) := by
  unfold f_J7_copyOf_59c91_9
  refine ⟨rk_zj J m, ?_⟩
  rw [if_pos rfl, pr_nck (by omega), pr_sb, pr_sb, pr_sb, pr_sb, pr_sb, pr_ck sh_s, pr_sb]
theorem at_text {n N : Nat} {S : rk_Sh} {I : rk_I} {J : rk_J} {R : rk_R} (hn : 28 ≤ n) (hn2 : n < 700000) (hN : N ≤ 160) (h8 : I 4 8 = nI N) (hL : rk_LC S R) : ∃ S' I' J' R', f_X2_asText n S I J R = some (n, n + 3, S', I', J', R') ∧ rk_LC S' R' ∧ (∀ k, k < n → S' k = S k) ∧ S' n = (7, 2) ∧ S' (n + 1) = (20, N) ∧ S' (n + 2) = (20, 3) ∧ (∀ k, k < n → I' k = I k) ∧ (∀ i, i < N → I' (n + 1) i = I 8 i) ∧ (∀ i, I' (n + 2) i = I 9 i) ∧ (∀ k, k < n → R' k = R k) ∧ R' n 0 = some (n + 1) ∧ R' n 1 = some (n + 2) := by
  have hl1 : rk_LC (rk_sh S n 7 2) (rk_zr R n) := LC_new hL (fun k hk => by rw [sh_o (by omega)]) (fun k hk _ _ _ => by rw [zr_o (by omega)])
  obtain ⟨I2, J2, R2, e2, f2, g2, r2⟩ := at_8 (m := n + 1) (N := N) (S := rk_sh S n 7 2) (I := rk_zi I n) (J := rk_zj J n) (R := rk_zr R n) (by omega) (by omega) hN hl1
  have hl2 : rk_LC (rk_sh (rk_sh S n 7 2) (n + 1) 20 N) R2 := LC_new hL (fun k hk => by rw [sh_o (by omega), sh_o (by omega)]) (fun k hk _ _ _ => by rw [r2 k (by omega), zr_o (by omega)])
  obtain ⟨J3, e3⟩ := at_9 (m := n + 2) (S := rk_sh (rk_sh S n 7 2) (n + 1) 20 N) (I := I2) (J := J2) (R := R2) (by omega)
  have s3 : rk_sh (rk_sh (rk_sh S n 7 2) (n + 1) 20 N) (n + 2) 20 3 n = (7, 2) := by rw [sh_o (by omega), sh_o (by omega), sh_s]
  refine ⟨rk_sh (rk_sh (rk_sh S n 7 2) (n + 1) 20 N) (n + 2) 20 3, fun k => if k = n + 2 then I2 9 else I2 k, J3, rk_ur (rk_ur (rk_zr R2 (n + 2)) n 0 (some (n + 1))) n 1 (some (n + 2)), ?_, ?_, fun k hk => ?_, s3, ?_, sh_s, fun k hk => ?_, fun i hi => ?_, fun i => ?_, fun k hk => ?_, ?_, ur_s⟩
  · unfold f_X2_asText f_X7_init
    rw [pr_nck (by omega), pr_sb, pr_sb, pr_sb, pr_sb, pr_sb, pr_layC hl1, pr_sb, zi_o (by omega), h8, e2, pr_b6, pr_layC hl2, pr_sb, e3, pr_b6, pr_sb, pr_sb, pr_sb, pr_ck s3, pr_sb]
  · refine LC_new hL (fun k hk => by rw [sh_o (by omega), sh_o (by omega), sh_o (by omega)]) (fun k hk _ _ _ => ?_)
    rw [ur_o (by omega), ur_o (by omega), zr_o (by omega), r2 k (by omega), zr_o (by omega)]
  · rw [sh_o (by omega), sh_o (by omega), sh_o (by omega)]
  · rw [sh_o (by omega), sh_s]
  · show (if k = n + 2 then _ else I2 k) = _
    rw [if_neg (by omega), f2 k (by omega), zi_o (by omega)]
  · show (if n + 1 = n + 2 then I2 9 else I2 (n + 1)) i = _
    rw [if_neg (by omega), g2 i hi, zi_o (by omega)]
  · show (if n + 2 = n + 2 then I2 9 else I2 (n + 2)) i = _
    rw [if_pos rfl, f2 9 (by omega), zi_o (by omega)]
  · rw [ur_o (by omega), ur_o (by omega), zr_o (by omega), r2 k (by omega), zr_o (by omega)]
  · rw [ur_n (by omega), ur_s]
