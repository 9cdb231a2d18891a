/-! text: the reference lays the tape behind its texts and reads it -/
def tl_I (I : rk_I) (t k : Nat) : rk_I := fun q i => if q = 32 ∧ 160 * t ≤ i ∧ i < 160 * t + k then I 34 (i - 160 * t) else I q i
theorem tl_o {I : rk_I} {t k q : Nat} (h : q ≠ 32) : tl_I I t k q = I q := by
  funext i
  exact if_neg (fun z => h z.1)
theorem tl_z {I : rk_I} {t : Nat} : tl_I I t 0 = I := by
  funext q i
  exact if_neg (fun z => by omega)
theorem tl_s {I : rk_I} {t k : Nat} : rk_ui (tl_I I t k) 32 (160 * t + k) (I 34 k) = tl_I I t (k + 1) := by
  funext q i
  by_cases hq : q = 32
  · subst hq
    by_cases hi : i = 160 * t + k
    · subst hi
      rw [ui_s]
      unfold tl_I
      rw [if_pos (by omega), show 160 * t + k - 160 * t = k by omega]
    · rw [ui_n hi]
      unfold tl_I
      by_cases h2 : 160 * t ≤ i ∧ i < 160 * t + k
      · rw [if_pos ⟨rfl, h2⟩, if_pos (by omega)]
      · rw [if_neg (by omega), if_neg (by omega)]
  · rw [ui_o hq, tl_o hq, tl_o hq]
theorem tl_loop {I : rk_I} {J : rk_J} {t b : Nat} (ht : t < 6) (hb : b ≤ 160) (h3 : I 31 3 = nI t) (h6 : I 31 6 = nI b) : rk_while (fun a9 : Int32 × rk_I => f_X10_text_l14 a9.2 J a9.1) (0, I) = some (nI b, tl_I I t b) := by
  have z : ((0 : Int32), I) = (fun k => (nI k, tl_I I t k)) 0 := by
    show _ = (nI 0, tl_I I t 0)
    rw [tl_z]
    rfl
  rw [z]
  refine pr_run (f := fun a9 : Int32 × rk_I => f_X10_text_l14 a9.2 J a9.1) (fun k => (nI k, tl_I I t k)) b ?_ ?_
  · intro k hk
    show f_X10_text_l14 (tl_I I t k) J (nI k) = _
    unfold f_X10_text_l14
    rw [tl_o (by omega), h6, if_neg (nI_ge hk (by omega)), pr_rd (by omega) (by omega), pr_sb, h3, show (160 : Int32) = nI 160 from rfl, pk_mul, nI_add, pr_wr (by omega) (by omega), pr_sb, nI_1, tl_o (by omega), tl_s]
  · show f_X10_text_l14 (tl_I I t b) J (nI b) = _
    unfold f_X10_text_l14
    rw [tl_o (by omega), h6, if_pos (nI_le (Nat.le_refl _) (by omega))]
def tQ (t k i : Nat) : Prop := ¬ (k = 31 ∧ (i = 3 ∨ i = 6 ∨ (23 ≤ i ∧ i ≤ 33))) ∧ ¬ (k = 32 ∧ 160 * t ≤ i ∧ i < 160 * t + 160) ∧ ¬ (k = 33 ∧ i = t)
theorem tm_text {bs tk pl st : Nat → Nat} {b tc t : Nat} (hT : tz_T bs b tk pl st tc) (ht : t < 6) (hb : b ≤ 160) {I : rk_I} {J : rk_J} (h3 : I 31 3 = nI t) (h6 : I 31 6 = nI b) (hbs : ∀ i, i < b → bs i < 256 ∧ I 34 i = nI (bs i)) : ∃ v I2 J2, f_X10_text I J = some (v, I2, J2) ∧ (∀ k i, tQ t k i → I2 k i = I k i) ∧ I2 31 6 = 0 ∧ I2 33 t = nI b ∧ (∀ i, i < b → I2 32 (160 * t + i) = nI (bs i)) ∧ ((∃ f, gp_t tk = .inl f ∧ v = -100 - nI (pl f) ∧ I2 31 3 = nI t) ∨ ∃ c, gp_t tk = .inr c ∧ v = nI t ∧ I2 31 3 = nI (t + 1)) := by
  have c3 : tl_I I t b 31 3 = nI t := by rw [tl_o (by omega)]; exact h3
  have c6 : tl_I I t b 31 6 = nI b := by rw [tl_o (by omega)]; exact h6
  have d32 : ∀ i, i < b → rk_ui (rk_ui (tl_I I t b) 33 t (nI b)) 31 6 0 32 (160 * t + i) = nI (bs i) := fun i hi => by
    rw [ui_o (by omega), ui_o (by omega)]
    unfold tl_I
    rw [if_pos (by omega), show 160 * t + i - 160 * t = i by omega]
    exact (hbs i hi).2
  have d33 : rk_ui (rk_ui (tl_I I t b) 33 t (nI b)) 31 6 0 33 t = nI b := by rw [ui_o (by omega), ui_s]
  have d3 : rk_ui (rk_ui (tl_I I t b) 33 t (nI b)) 31 6 0 31 3 = nI t := by rw [ui_n (by omega), ui_o (by omega)]; exact c3
  obtain ⟨v, I4, J1, e4, r4, m4, hD⟩ := rd_read (J := J) (I := rk_ui (rk_ui (tl_I I t b) 33 t (nI b)) 31 6 0) hT (by have := cb_tc hT; omega) (t := t) (k := 0) ht (by omega) hb d33 (fun i hi => ⟨(hbs i hi).1, d32 i hi⟩) 0 0
  have hu : ∀ k i, tQ t k i → I4 k i = I k i := fun k i hq => by
    unfold tQ at hq
    rw [r4 k i (by omega)]
    by_cases k31 : k = 31
    · subst k31
      rw [ui_n (by omega), ui_o (by omega), tl_o (by omega)]
    · rw [ui_o k31]
      by_cases k33 : k = 33
      · subst k33
        rw [ui_n (by omega), tl_o (by omega)]
      · rw [ui_o k33]
        unfold tl_I
        rw [if_neg (by omega)]
  have u6 : I4 31 6 = 0 := by rw [r4 31 6 (by omega), ui_s]
  have u3 : I4 31 3 = nI t := by rw [r4 31 3 (by omega)]; exact d3
  have u33 : I4 33 t = nI b := by rw [r4 33 t (by omega)]; exact d33
  have u32 : ∀ i, i < b → I4 32 (160 * t + i) = nI (bs i) := fun i hi => by rw [r4 32 _ (by omega)]; exact d32 i hi
  have main : f_X10_text I J = if (I4 31 30) = 0 then some ((rk_ui I4 31 3 ((I4 31 3) + 1) 31 3) - 1, rk_ui I4 31 3 ((I4 31 3) + 1), J1) else some ((-100) - (I4 31 31), I4, J1) := by
    unfold f_X10_text
    rw [h3, if_neg (show ¬ nI t = 6 from fun z => by have := (nI_eq (b := 6) (by omega) (by omega)).mp z; omega), tl_loop ht hb h3 h6, cq_b2, c3, c6, pr_wr ht (by omega), pr_sb, pr_sb, d3, show f_X10_read (rk_ui (rk_ui (tl_I I t b) 33 t (nI b)) 31 6 0) J (nI t) 0 0 0 = _ from e4, cq_b3]
    rfl
  unfold rD at hD
  cases hg : gp_t tk with
  | inl f =>
    rw [hg] at hD
    simp only [] at hD
    rw [if_neg (by rw [hD.1]; decide), hD.2] at main
    exact ⟨_, I4, J1, main, hu, u6, u33, u32, Or.inl ⟨f, rfl, rfl, u3⟩⟩
  | inr c =>
    rw [hg] at hD
    simp only [] at hD
    rw [if_pos hD.1, ui_s, u3, nI_1, nI_pred] at main
    refine ⟨_, _, J1, main, fun k i hq => ?_, ?_, ?_, fun i hi => ?_, Or.inr ⟨c, rfl, rfl, ui_s⟩⟩
    · by_cases k31 : k = 31
      · subst k31
        rw [ui_n (by unfold tQ at hq; omega)]
        exact hu 31 i hq
      · rw [ui_o k31]
        exact hu k i hq
    · rw [ui_n (by omega)]; exact u6
    · rw [ui_o (by omega)]; exact u33
    · rw [ui_o (by omega)]; exact u32 i hi
theorem tx_sR {I I' : rk_I} (h : sR I I') : kI I I' := fun q i hk => h q i (fun e => by subst e; unfold kp at hk; omega) (fun e => by subst e; unfold kp at hk; omega) (fun e => by obtain ⟨e, e2⟩ := e; subst e; unfold kp at hk; omega)
theorem tx_cU {I I' : rk_I} (h : cU I I') : kI I I' := fun q i hk => h q i (fun e => by subst e; unfold kp at hk; omega) (fun e => by subst e; unfold kp at hk; omega) (fun e => by obtain ⟨e, e2⟩ := e; subst e; unfold kp at hk; omega)
theorem ck_text {n : Nat} {S : rk_Sh} {I : rk_I} {J : rk_J} {R : rk_R} (h : iv n S I R) : ∃ v n1 S1 I1 J1 R1 I2 J2, f_X9_text n S I J R = some (v, n1, S1, I1, J1, R1) ∧ f_X10_text I1 J1 = some (v, I2, J2) ∧ iv n1 S1 I2 R1 := by
  have h' := h
  obtain ⟨c, s, t, r, oc, os, ot, sv, cv, h1, h2, h3, h4, h5, h6, h7, h8, ⟨b, f1, f2, f3, f4⟩, h10, h11⟩ := h
  have t2 := h8.2.1
  have t3 := h8.2.2.1
  have t4 := h8.2.2.2.1
  have hc4 := h5.1
  have hs24 := h5.2.1
  by_cases ht : t < 6
  · have lt6 : I 0 5 < 6 := by rw [t3]; exact nI_lt (b := 6) ht (by omega)
    have hbs : ∀ i, i < b → (I 5 i).toBitVec.toNat < 256 ∧ I 5 i = nI (I 5 i).toBitVec.toNat ∧ I 34 i = nI (I 5 i).toBitVec.toNat := fun i hi => by
      obtain ⟨x, x1, x2, x3⟩ := f4 i hi
      have e : (I 5 i).toBitVec.toNat = x := by rw [x2]; exact pk_tn (by omega)
      rw [e]
      exact ⟨x1, x2, x3⟩
    have hW : wB (fun i => (I 5 i).toBitVec.toNat) b I := ⟨f1, f2, fun i hi => ⟨(hbs i hi).1, (hbs i hi).2.1⟩⟩
    obtain ⟨tk, pl, st, tc, I1, e1, hT, hcT, r1⟩ := sp_split hW
    obtain ⟨x, I5, e5, r5, hX5⟩ := cx_read e1 hcT
    have hk5 : kI I I5 := kI_t (tx_sR r1) (tx_cU r5)
    have q05 : I5 0 5 = nI t := (hk5 0 5 (by unfold kp; omega)).trans t3
    have q3 : I5 31 3 = nI t := (hk5 31 3 (by unfold kp; omega)).trans t4
    have q6 : I5 31 6 = nI b := (hk5 31 6 (by unfold kp; omega)).trans f3
    have q34 : ∀ i, i < b → I5 34 i = nI (I 5 i).toBitVec.toNat := fun i hi => (hk5 34 i (by unfold kp; omega)).trans (hbs i hi).2.2
    unfold cX at hX5
    cases hg : gp_t tk with
    | inl f =>
      rw [hg] at hX5
      simp only [] at hX5
      obtain ⟨hx, hpl⟩ := hX5
      have hx1 : ¬ x = -1 := by rw [hx]; exact pr_n1 (by omega)
      obtain ⟨v, I2, J2, g1, g2, g3, g4, g5, g6⟩ := tm_text (I := rk_ui I5 4 1 0) (J := J) hT ht f1 (by rw [ui_o (by omega)]; exact q3) (by rw [ui_o (by omega)]; exact q6) (fun i hi => ⟨(hbs i hi).1, by rw [ui_o (by omega)]; exact q34 i hi⟩)
      rcases g6 with ⟨f', k1, k2, k3⟩ | ⟨c', k1, -⟩
      · rw [hg] at k1
        cases k1
        refine ⟨v, n, S, rk_ui I5 4 1 0, J, R, I2, J2, ?_, g1, iv_tbad h1 h2 h3 h4 h5 h6 h7 h8 h10 h11 (fun k i hk hp => ?_) ?_ ?_ ?_ g3⟩
        · unfold f_X9_text f_X2_empty
          rw [if_pos lt6, e5, cq_b2, if_neg hx1, pr_sb, pr_sb, if_neg hx1, hx, k2]
        · unfold tP at hp
          rw [g2 k i (by unfold tQ; unfold kp at hp; omega)]
          by_cases k4 : k = 4
          · subst k4
            rw [ui_n (by omega)]
            exact hk5 4 i hp.1
          · rw [ui_o k4]
            exact hk5 k i hp.1
        · rw [g2 0 5 (by unfold tQ; omega), ui_o (by omega), q05, t3]
        · rw [k3, t4]
        · rw [g2 4 1 (by unfold tQ; omega), ui_s]
      · rw [hg] at k1
        cases k1
    | inr cc =>
      rw [hg] at hX5
      simp only [] at hX5
      obtain ⟨hx, hl, x8, xc, x90, x91, x92⟩ := hX5
      obtain ⟨S6, I6, J6, R6, a1, a2, a3, a4, a5, a6, a7, a8, a9, a10, a11, a12⟩ := at_text (n := n) (S := S) (I := I5) (J := J) (R := R) (by omega) (by omega) hl x8 h1
      have p05 : I6 0 5 = nI t := by rw [a7 0 (by omega)]; exact q05
      obtain ⟨v, I2, J2, g1, g2, g3, g4, g5, g6⟩ := tm_text (I := rk_ui (rk_ui I6 0 5 (nI (t + 1))) 4 1 0) (J := J6) hT ht f1 (by rw [ui_o (by omega), ui_o (by omega), a7 31 (by omega)]; exact q3) (by rw [ui_o (by omega), ui_o (by omega), a7 31 (by omega)]; exact q6) (fun i hi => ⟨(hbs i hi).1, by rw [ui_o (by omega), ui_o (by omega), a7 34 (by omega)]; exact q34 i hi⟩)
      rcases g6 with ⟨f', k1, -⟩ | ⟨c', k1, k2, k3⟩
      · rw [hg] at k1
        cases k1
      · have n1 : I2 (n + 1) = I6 (n + 1) := by
          funext i
          rw [g2 _ i (by unfold tQ; omega), ui_o (by omega), ui_o (by omega)]
        have n2 : I2 (n + 2) = I6 (n + 2) := by
          funext i
          rw [g2 _ i (by unfold tQ; omega), ui_o (by omega), ui_o (by omega)]
        refine ⟨v, n + 3, S6, rk_ui (rk_ui I6 0 5 (nI (t + 1))) 4 1 0, J6, rk_ur R6 3 t (some n), I2, J2, ?_, g1, iv_tnew h1 h2 h3 h4 h5 h6 h7 h8 h10 h11 ht (N := (cc.1 ++ cc.2.1 ++ cc.2.2).length) (sz := b) (fun k i hk hp => ?_) a3 (fun k hk hk3 => ?_) (fun i hi => ?_) ?_ k3 ?_ g3 ur_s a4 ?_ ?_ a6 a5 g4 ?_⟩
        · unfold f_X9_text f_X2_empty
          rw [if_pos lt6, e5, cq_b2, if_pos hx, a1, pr_b6, pr_layC a2, pr_sb, pr_ck a4, pr_sb, q05, pr_wrR (by omega) (by omega), pr_sb, p05, nI_1, pr_sb, pr_sb, pr_sb, if_pos hx, ui_o (by omega), ui_s, nI_pred, k2]
        · unfold tP at hp
          rw [g2 k i (by unfold tQ; unfold kp at hp; omega)]
          by_cases k4 : k = 4
          · subst k4
            rw [ui_n (by omega), ui_o (by omega), a7 4 hk]
            exact hk5 4 i hp.1
          · rw [ui_o k4]
            by_cases k0 : k = 0
            · subst k0
              rw [ui_n (by omega), a7 0 hk]
              exact hk5 0 i hp.1
            · rw [ui_o k0, a7 k hk]
              exact hk5 k i hp.1
        · rw [ur_o hk3, a10 k hk]
        · rw [ur_n hi, a10 3 (by omega)]
        · rw [g2 0 5 (by unfold tQ; omega), ui_o (by omega), ui_s]
        · rw [g2 4 1 (by unfold tQ; omega), ui_s]
        · rw [ur_o (by omega)]; exact a11
        · rw [ur_o (by omega)]; exact a12
        · refine ⟨fun i => (I 5 i).toBitVec.toNat, tk, pl, st, tc, cc.1, cc.2.1, cc.2.2, f1, fun i hi => ⟨(hbs i hi).1, g5 i hi⟩, hT, hg, by simp [List.length_append, Nat.add_assoc], hl, fun i hi => ?_, ?_, ?_, ?_⟩
          · rw [n1, a8 i hi, xc i hi]
          · rw [n2, a9 0, x90]
          · rw [n2, a9 1, x91]
          · rw [n2, a9 2, x92]
  · have e6 : t = 6 := by omega
    refine ⟨-4, n, S, I, J, R, I, J, ?_, ?_, h'⟩
    · unfold f_X9_text
      rw [t3, e6, if_neg (show ¬ nI 6 < 6 by decide)]
    · unfold f_X10_text
      rw [t4, e6, if_pos (show nI 6 = 6 from rfl)]
