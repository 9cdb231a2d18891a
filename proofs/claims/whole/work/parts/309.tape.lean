/-! feed, count, sheet, cell, copy -/
theorem fd_eq (x : Int64) (j : Nat) (hj : j < 8) : ((Int64.toInt32 (rk_lus x (nI (8 * j)))) &&& 255) = Int64.toInt32 ((rk_lsr x (nI (8 * j))) &&& 255) := by
  obtain ⟨n, hn, rfl⟩ := wb_of x
  unfold rk_lus rk_lsr
  rw [wb_shr hn (by omega), wb_c _ (by omega)]
  apply Int32.toBitVec_inj.mp
  rw [Int32.toBitVec_and, Int64.toBitVec_toInt32, Int64.toBitVec_toInt32, Int64.toBitVec_and, Int64.toBitVec_shiftRight]
  have e : ((lN (8 * j)).toBitVec.smod 64) = BitVec.ofNat 64 (8 * j) := wb_sm _ (by omega)
  rw [e, BitVec.sshiftRight_eq', BitVec.toNat_ofNat, Nat.mod_eq_of_lt (by omega : 8 * j < 2 ^ 64)]
  apply BitVec.eq_of_getLsbD_eq
  intro i hi
  rw [BitVec.getLsbD_and, BitVec.getLsbD_signExtend, BitVec.getLsbD_signExtend, BitVec.getLsbD_and, BitVec.getLsbD_sshiftRight]
  have h255 : ∀ i, i < 32 → (255 : Int32).toBitVec.getLsbD i = decide (i < 8) := by decide
  have h255L : ∀ i, i < 32 → (255 : Int64).toBitVec.getLsbD i = decide (i < 8) := by decide
  rw [h255 i hi, h255L i hi]
  rcases Nat.lt_or_ge i 8 with z | z
  · have e1 : (lN (n / 2 ^ (8 * j))).toBitVec.getLsbD i = (lN n).toBitVec.getLsbD (8 * j + i) := by
      rw [wb_tb, wb_tb, BitVec.getLsbD_ofNat, BitVec.getLsbD_ofNat, Nat.testBit_div_two_pow]
      rw [Nat.add_comm i (8 * j)]
      simp only [show i < 64 by omega, show 8 * j + i < 64 by omega, decide_true, Bool.true_and]
    rw [e1]
    simp [z, hi, show ¬ 64 ≤ i by omega, show i < 64 by omega, show 8 * j + i < 64 by omega]
  · simp [show ¬ i < 8 by omega]
    intro _ h; omega
theorem fd_byte : ∀ j, j < 8 → (8 : Int32) * nI j = nI (8 * j) := by decide +kernel
theorem fd_is (x : Int32) : ∃ w, w < 256 ∧ x &&& 255 = nI w := pk_andE x 8 (by decide)
theorem fd_c {I : rk_I} {b : Nat} (hb : b < 160) (h : I 4 1 = nI b) (x : Int32) : f_X2_put I x = some (rk_ui (rk_ui I 5 b x) 4 1 (nI (b + 1))) := by
  unfold f_X2_put
  rw [h, if_neg (by rw [fa_le, nI_toInt (by omega)]; have : (160 : Int32).toInt = 160 := by decide
                    omega), pr_wr hb (by omega), pr_sb, ui_o (by omega), h, nI_1]
  rfl
/-- tape and sheets may change, and what is scratch -/
theorem iv_FH {n : Nat} {S : rk_Sh} {I I' : rk_I} {R R' : rk_R} (h : iv n S I R) (ha : ∀ k i, kp k i → k ≠ 5 → k ≠ 34 → ¬ (k = 4 ∧ i = 1) → ¬ (k = 31 ∧ i = 6) → (k < 20 ∨ 28 ≤ k) → (k < 53 ∨ 57 ≤ k) → I' k i = I k i) (hF : pv_F I') (hH : pv_H I') (hR : kR R R') : iv n S I' R' := by
  obtain ⟨c, s, t, r, oc, os, ot, sv, cv, h1, h2, h3, h4, h5, h6, h7, h8, h9, h10, h11⟩ := h
  have hW : ∀ k, (∀ i, kp k i) → k ≠ 5 → k ≠ 34 → k ≠ 4 → k ≠ 31 → (k < 20 ∨ 28 ≤ k) → (k < 53 ∨ 57 ≤ k) → I' k = I k := fun k a b d e f g g2 => by
    funext i
    exact ha k i (a i) b d (by omega) (by omega) g g2
  have h0 : I' 0 = I 0 := hW 0 (fun i => by unfold kp; omega) (by omega) (by omega) (by omega) (by omega) (by omega) (by omega)
  have hb : ∀ k, 57 ≤ k → I' k = I k := fun k hk => hW k (fun i => by unfold kp; omega) (by omega) (by omega) (by omega) (by omega) (by omega) (by omega)
  have h31 : ∀ i, i ≠ 6 → (i < 23 ∨ 38 ≤ i) → I' 31 i = I 31 i := fun i a b => ha 31 i (by unfold kp; omega) (by omega) (by omega) (by omega) (by omega) (by omega) (by omega)
  have hm : ∀ k, 32 ≤ k → k < 47 → k ≠ 34 → I' k = I k := fun k a b d => hW k (fun i => by unfold kp; omega) (by omega) d (by omega) (by omega) (by omega) (by omega)
  have hO := h6.1
  refine ⟨c, s, t, r, oc, os, ot, sv, cv, kLC h1 hR, kLM h2 hR, h3, h4, h5, ?_, ?_, ?_, hF, hH, ?_⟩
  · refine kX (I := I') (R := R) ?_ (kI_r _) hR
    exact mX h6 (Nat.le_refl _) (fun _ _ _ => rfl) (fun k hk _ => hb k hk) (by rw [h0]) (by rw [h0]) (fun _ _ _ => rfl) rfl rfl
  · exact mY h7 (h31 10 (by omega) (by omega)) (h31 20 (by omega) (by omega)) (fun k a b => hm k (by omega) b (by omega))
  · refine kT (I := I') (R := R) ?_ (kI_r _) hR
    have hot := fun q hq => (h8.2.2.2.2.2.2.2 q hq).2.1
    refine mT h8 (Nat.le_refl _) h3 (by rw [h0]) (by rw [h0]) (h31 3 (by omega) (by omega)) (h31 4 (by omega) (by omega)) (hm 32 (by omega) (by omega) (by omega)) (hm 33 (by omega) (by omega) (by omega)) (fun _ _ => ⟨rfl, rfl, rfl⟩) (fun q hq => ?_) (fun _ _ => rfl) rfl
    rcases hot q hq with e | e
    · rw [e]
      exact ⟨hW 29 (fun i => by unfold kp; omega) (by omega) (by omega) (by omega) (by omega) (by omega) (by omega), hW 30 (fun i => by unfold kp; omega) (by omega) (by omega) (by omega) (by omega) (by omega) (by omega)⟩
    · exact ⟨hb _ (by omega), hb _ (by omega)⟩
  · refine mG h11 hO (Nat.le_refl _) (Nat.le_refl _) (Nat.le_refl _) (fun _ _ => rfl) (fun _ _ => rfl) (fun k hk => ?_) (fun k hk => ?_) (by rw [h0]) (by rw [h0]) (by rw [h0]) (by rw [h0]) (h31 38 (by omega) (by omega)) (h31 39 (by omega) (by omega)) (h31 40 (by omega) (by omega)) (h31 41 (by omega) (by omega)) (hW 50 (fun i => by unfold kp; omega) (by omega) (by omega) (by omega) (by omega) (by omega) (by omega)) (hW 51 (fun i => by unfold kp; omega) (by omega) (by omega) (by omega) (by omega) (by omega) (by omega)) (hW 52 (fun i => by unfold kp; omega) (by omega) (by omega) (by omega) (by omega) (by omega) (by omega))
    · have := hO.2.1 k hk
      rw [hb _ (by omega)]
      exact ⟨rfl, rfl⟩
    · have := hO.1 k hk
      exact hb _ (by omega)
def fd_F (I : rk_I) (p q f b : Nat) (B : Nat → Int32) (k : Nat) : rk_I := fun o i => if o = p then (if b ≤ i ∧ i < b + k then B (i - b) else I o i) else if o = q ∧ i = f then nI (b + k) else I o i
theorem fd_step {I : rk_I} {p q f b : Nat} {B : Nat → Int32} {k : Nat} (h : p ≠ q) : rk_ui (rk_ui (fd_F I p q f b B k) p (b + k) (B k)) q f (nI (b + k + 1)) = fd_F I p q f b B (k + 1) := by
  funext o i
  by_cases ho : o = q
  · subst ho
    by_cases hi : i = f
    · subst hi
      rw [ui_s]
      simp only [fd_F, if_neg (Ne.symm h), if_pos (And.intro rfl rfl)]
      rfl
    · rw [ui_n hi, ui_o (Ne.symm h)]
      simp only [fd_F, if_neg (Ne.symm h), hi, and_false, if_false]
  · rw [ui_o ho]
    by_cases hp : o = p
    · subst hp
      by_cases hi : i = b + k
      · subst hi
        rw [ui_s]
        simp only [fd_F, if_true]
        rw [if_pos (by omega), show b + k - b = k by omega]
      · rw [ui_n hi]
        simp only [fd_F, if_true]
        by_cases h2 : b ≤ i ∧ i < b + k
        · rw [if_pos h2, if_pos (by omega)]
        · rw [if_neg h2, if_neg (by omega)]
    · rw [ui_o hp]
      simp only [fd_F, hp, if_false, ho, false_and]
theorem fd_zero {I : rk_I} {p q f b : Nat} {B : Nat → Int32} (h : I q f = nI b) (hpq : p ≠ q) : fd_F I p q f b B 0 = I := by
  funext o i
  unfold fd_F
  by_cases hp : o = p
  · rw [if_pos hp, if_neg (by omega)]
  · rw [if_neg hp]
    by_cases hq : o = q ∧ i = f
    · rw [if_pos hq, hq.1, hq.2, h]
      rfl
    · rw [if_neg hq]
theorem fd_cnt {I : rk_I} {p q f b : Nat} {B : Nat → Int32} {k : Nat} (h : p ≠ q) : fd_F I p q f b B k q f = nI (b + k) := by
  unfold fd_F
  rw [if_neg (Ne.symm h), if_pos ⟨rfl, rfl⟩]
theorem ck_feed {n : Nat} {S : rk_Sh} {I : rk_I} {R : rk_R} (h : iv n S I R) (a : Int32) (x : Int64) : ∃ v I1 I2, f_X9_feed I a x = some (v, I1) ∧ f_X10_feed I1 a x = some (v, I2) ∧ iv n S I2 R := by
  have h' := h
  obtain ⟨c, s, t, r, oc, os, ot, sv, cv, h1, h2, h3, h4, h5, h6, h7, h8, ⟨b, f1, f2, f3, f4⟩, h10, h11⟩ := h
  have m160 : (160 : Int32).toInt = 160 := by decide
  have m8 : (8 : Int32).toInt = 8 := by decide
  have m1 : (1 : Int32).toInt = 1 := by decide
  unfold f_X9_feed f_X10_feed f_X2_room
  have l1 : (1 : Int64).toInt = 1 := by decide
  have l8 : (8 : Int64).toInt = 8 := by decide
  rw [pr_inI l1 l8]
  by_cases hr : 1 ≤ a.toInt ∧ a.toInt ≤ 8
  · obtain ⟨m, hm, rfl⟩ : ∃ m, m < 9 ∧ a = nI m := by
      rcases pr_tri a 9 (by omega) with ⟨j, j1, e⟩ | e
      · exact ⟨j, j1, e⟩
      · omega
    have hmi : (nI m).toInt = (m : Int) := nI_toInt (by omega)
    rw [hmi] at hr
    have e1 : (if 1 ≤ (nI m).toInt ∧ (nI m).toInt ≤ 8 then (1 : Int32) else 0) = 1 := if_pos (by rw [hmi]; exact hr)
    have er : 160 - I 4 1 = nI (160 - b) := by rw [f2, show (160 : Int32) = nI 160 from rfl, pk_sub f1]
    have g1 : ¬ nI m < 1 := by rw [fa_lt, m1, hmi]; omega
    have g2 : nI m ≤ 8 := by rw [fa_le, m8, hmi]; omega
    by_cases hfit : b + m ≤ 160
    · let B : Nat → Int32 := fun j => Int64.toInt32 (rk_lus x (nI (8 * j))) &&& 255
      have c1 : rk_while (fun a9 : Int32 × rk_I => f_X9_feed_l31 a9.2 (nI m) x a9.1) (0, I) = some (nI m, fd_F I 5 4 1 b B m) := by
        have z : ((0 : Int32), I) = (fun k => (nI k, fd_F I 5 4 1 b B k)) 0 := by
          show _ = (nI 0, fd_F I 5 4 1 b B 0)
          rw [fd_zero f2 (by omega)]
          rfl
        rw [z]
        refine pr_run (f := fun a9 : Int32 × rk_I => f_X9_feed_l31 a9.2 (nI m) x a9.1) (fun k => (nI k, fd_F I 5 4 1 b B k)) m ?_ ?_
        · intro k hk
          show f_X9_feed_l31 (fd_F I 5 4 1 b B k) (nI m) x (nI k) = _
          unfold f_X9_feed_l31
          rw [if_neg (nI_ge hk (by omega)), fd_byte k (by omega), fd_c (by omega) (fd_cnt (by omega)), pr_sb, nI_1, fd_step (by omega)]
        · show f_X9_feed_l31 (fd_F I 5 4 1 b B m) (nI m) x (nI m) = _
          unfold f_X9_feed_l31
          rw [if_pos (nI_le (Nat.le_refl _) (by omega))]
      have f3' : fd_F I 5 4 1 b B m 31 6 = nI b := by
        unfold fd_F
        rw [if_neg (by omega), if_neg (by omega)]
        exact f3
      have c2 : rk_while (fun a9 : Int32 × rk_I => f_X10_feed_l33 a9.2 (nI m) x a9.1) (0, fd_F I 5 4 1 b B m) = some (nI m, fd_F (fd_F I 5 4 1 b B m) 34 31 6 b B m) := by
        have z : ((0 : Int32), fd_F I 5 4 1 b B m) = (fun k => (nI k, fd_F (fd_F I 5 4 1 b B m) 34 31 6 b B k)) 0 := by
          show _ = (nI 0, fd_F (fd_F I 5 4 1 b B m) 34 31 6 b B 0)
          rw [fd_zero f3' (by omega)]
          rfl
        rw [z]
        refine pr_run (f := fun a9 : Int32 × rk_I => f_X10_feed_l33 a9.2 (nI m) x a9.1) (fun k => (nI k, fd_F (fd_F I 5 4 1 b B m) 34 31 6 b B k)) m ?_ ?_
        · intro k hk
          show f_X10_feed_l33 (fd_F (fd_F I 5 4 1 b B m) 34 31 6 b B k) (nI m) x (nI k) = _
          unfold f_X10_feed_l33
          rw [if_neg (nI_ge hk (by omega)), fd_cnt (by omega), pr_wr (by omega) (by omega), pr_sb, ui_o (by omega), fd_cnt (by omega), pr_sb, fd_byte k (by omega), ← fd_eq x k (by omega), nI_1, nI_1, fd_step (by omega)]
        · show f_X10_feed_l33 (fd_F (fd_F I 5 4 1 b B m) 34 31 6 b B m) (nI m) x (nI m) = _
          unfold f_X10_feed_l33
          rw [if_pos (nI_le (Nat.le_refl _) (by omega))]
      refine ⟨nI (b + m), fd_F I 5 4 1 b B m, fd_F (fd_F I 5 4 1 b B m) 34 31 6 b B m, ?_, ?_, ?_⟩
      · rw [if_neg g1, if_pos g2, pr_sb, er, if_pos (nI_le (by omega) (by omega)), c1, pr_b2, fd_cnt (by omega)]
      · rw [e1, pr_sb, if_neg (by decide), f3', nI_add, if_pos (by rw [fa_le, m160, nI_toInt (by omega)]; omega), c2, pr_b2, fd_cnt (by omega)]
      · refine iv_FH h' (fun k i _ b1 b2 b3 b4 _ _ => ?_) ⟨b + m, hfit, ?_, ?_, fun i hi => ?_⟩ (mH h10 (fun k _ _ => ?_) (fun k _ _ => ?_)) (kR_r _)
        · unfold fd_F
          rw [if_neg b2, if_neg b4, if_neg b1, if_neg b3]
        · show fd_F (fd_F I 5 4 1 b B m) 34 31 6 b B m 4 1 = _
          unfold fd_F
          rw [if_neg (by omega), if_neg (by omega), if_neg (by omega), if_pos (by omega)]
        · exact fd_cnt (by omega)
        · have e5 : fd_F (fd_F I 5 4 1 b B m) 34 31 6 b B m 5 i = if b ≤ i ∧ i < b + m then B (i - b) else I 5 i := by
            unfold fd_F
            rw [if_neg (by omega), if_neg (by omega), if_pos rfl]
          have e34 : fd_F (fd_F I 5 4 1 b B m) 34 31 6 b B m 34 i = if b ≤ i ∧ i < b + m then B (i - b) else I 34 i := by
            unfold fd_F
            rw [if_pos rfl]
            by_cases hh : b ≤ i ∧ i < b + m
            · rw [if_pos hh, if_pos hh]
            · rw [if_neg hh, if_neg hh, if_neg (by omega), if_neg (by omega)]
          rw [e5, e34]
          by_cases hb : b ≤ i
          · rw [if_pos ⟨hb, hi⟩, if_pos ⟨hb, hi⟩]
            obtain ⟨w, w1, w2⟩ := fd_is (Int64.toInt32 (rk_lus x (nI (8 * (i - b)))))
            exact ⟨w, w1, w2, w2⟩
          · rw [if_neg (fun z => hb z.1), if_neg (fun z => hb z.1)]
            exact f4 i (by omega)
        · funext i
          unfold fd_F
          rw [if_neg (by omega), if_neg (by omega), if_neg (by omega), if_neg (by omega)]
        · funext i
          unfold fd_F
          rw [if_neg (by omega), if_neg (by omega), if_neg (by omega), if_neg (by omega)]
    · refine ⟨-4, I, I, ?_, ?_, h'⟩
      · rw [if_neg g1, if_pos g2, pr_sb, er, if_neg (nI_ge (by omega) (by omega))]
      · rw [e1, pr_sb, if_neg (by decide), f3, nI_add, if_neg (by rw [fa_le, m160, nI_toInt (by omega)]; omega)]
  · have e0 : (if 1 ≤ a.toInt ∧ a.toInt ≤ 8 then (1 : Int32) else 0) = 0 := if_neg hr
    refine ⟨-2, I, I, ?_, ?_, h'⟩
    · by_cases g1 : a < 1
      · rw [if_pos g1]
      · rw [if_neg g1, if_neg]
        rw [fa_lt, m1] at g1
        rw [fa_le, m8]
        omega
    · rw [e0]; rfl
/-! count -/
def ct_p (sv : pv_V) : Nat → Nat
  | 0 => 0
  | k + 1 => ct_p sv k + if sv k 7 = 0 then 0 else 1
def ct_q (sv : pv_V) : Nat → Nat
  | 0 => 0
  | k + 1 => ct_q sv k + sv k 8
theorem ck_count {n : Nat} {S : rk_Sh} {I : rk_I} {R : rk_R} (h : iv n S I R) (a : Int32) : ∃ v, f_X9_count S I R a = some v ∧ f_X10_count I a = some v := by
  obtain ⟨c, s, t, r, oc, os, ot, sv, cv, h1, h2, h3, h4, h5, ⟨hO, x1, x2, x3, x4⟩, h7, h8, ⟨b, f1, f2, f3, f4⟩, h10, h11⟩ := h
  have hs := h5.2.1
  have a1 : f_X9_papersHandedOn S I R = some (nI (ct_p sv s)) := by
    unfold f_X9_papersHandedOn
    rw [show ((0 : Int32), (0 : Int32)) = (fun k => (nI (ct_p sv k), nI k)) 0 from rfl, pr_run (f := fun a9 : Int32 × Int32 => f_X9_papersHandedOn_l4 S I R a9.1 a9.2) (fun k => (nI (ct_p sv k), nI k)) s (b := (nI (ct_p sv s), nI s))]
    · rfl
    · intro k hk
      obtain ⟨y0, y1, -, -, -, -, -, -, -, y9, -⟩ := x3 k hk
      have b7 := (h5.2.2.1 k hk).2.2.2.2.2.2.2.2.2.1
      show f_X9_papersHandedOn_l4 S I R (nI (ct_p sv k)) (nI k) = _
      unfold f_X9_papersHandedOn_l4
      rw [x2, if_neg (nI_ge hk (by omega)), pr_rdR (by omega) (by omega), y0, pr_sb, pr_dr y1, pr_sb, y9, nI_1]
      by_cases z : sv k 7 = 0
      · rw [if_pos ((pr_M0 (by omega)).mpr z)]
        simp [ct_p, z]
      · rw [if_neg (fun w => z ((pr_M0 (by omega)).mp w)), nI_1]
        simp [ct_p, z]
    · show f_X9_papersHandedOn_l4 S I R (nI (ct_p sv s)) (nI s) = _
      unfold f_X9_papersHandedOn_l4
      rw [x2, if_pos (nI_le (Nat.le_refl _) (by omega))]
  have a2 : f_X9_paidInAll S I R = some (nI (ct_q sv s)) := by
    unfold f_X9_paidInAll
    rw [show ((0 : Int32), (0 : Int32)) = (fun k => (nI (ct_q sv k), nI k)) 0 from rfl, pr_run (f := fun a9 : Int32 × Int32 => f_X9_paidInAll_l4 S I R a9.1 a9.2) (fun k => (nI (ct_q sv k), nI k)) s (b := (nI (ct_q sv s), nI s))]
    · rfl
    · intro k hk
      obtain ⟨y0, y1, -, -, -, -, -, -, -, -, y10⟩ := x3 k hk
      show f_X9_paidInAll_l4 S I R (nI (ct_q sv k)) (nI k) = _
      unfold f_X9_paidInAll_l4
      rw [x2, if_neg (nI_ge hk (by omega)), pr_rdR (by omega) (by omega), y0, pr_sb, pr_dr y1, pr_sb, y10, nI_1, nI_add]
      rfl
    · show f_X9_paidInAll_l4 S I R (nI (ct_q sv s)) (nI s) = _
      unfold f_X9_paidInAll_l4
      rw [x2, if_pos (nI_le (Nat.le_refl _) (by omega))]
  have a3 : rk_while (fun a9 : Int32 × Int32 => f_X10_count_l71 I a9.1 a9.2) (0, 0) = some (nI (ct_p sv s), nI s) := by
    rw [show ((0 : Int32), (0 : Int32)) = (fun k => (nI (ct_p sv k), nI k)) 0 from rfl]
    refine pr_run (f := fun a9 : Int32 × Int32 => f_X10_count_l71 I a9.1 a9.2) (fun k => (nI (ct_p sv k), nI k)) s ?_ ?_
    · intro k hk
      have m7 := (h7.2.2.1 k hk).2.2.2.2.2.2.2.1
      have b7 := (h5.2.2.1 k hk).2.2.2.2.2.2.2.2.2.1
      show f_X10_count_l71 I (nI (ct_p sv k)) (nI k) = _
      unfold f_X10_count_l71
      rw [h7.2.1, if_neg (nI_ge hk (by omega)), pr_rd (by omega) (by omega), m7, pr_sb, nI_1]
      by_cases z : sv k 7 = 0
      · rw [if_pos ((pr_M0 (by omega)).mpr z)]
        simp [ct_p, z]
      · rw [if_neg (fun w => z ((pr_M0 (by omega)).mp w)), nI_1]
        simp [ct_p, z]
    · show f_X10_count_l71 I (nI (ct_p sv s)) (nI s) = _
      unfold f_X10_count_l71
      rw [h7.2.1, if_pos (nI_le (Nat.le_refl _) (by omega))]
  have a4 : rk_while (fun a9 : Int32 × Int32 => f_X10_count_l107 I a9.1 a9.2) (0, 0) = some (nI (ct_q sv s), nI s) := by
    rw [show ((0 : Int32), (0 : Int32)) = (fun k => (nI (ct_q sv k), nI k)) 0 from rfl]
    refine pr_run (f := fun a9 : Int32 × Int32 => f_X10_count_l107 I a9.1 a9.2) (fun k => (nI (ct_q sv k), nI k)) s ?_ ?_
    · intro k hk
      have m8 := (h7.2.2.1 k hk).2.2.2.2.2.2.2.2
      show f_X10_count_l107 I (nI (ct_q sv k)) (nI k) = _
      unfold f_X10_count_l107
      rw [h7.2.1, if_neg (nI_ge hk (by omega)), pr_rd (by omega) (by omega), m8, pr_sb, nI_1, nI_add]
      rfl
    · show f_X10_count_l107 I (nI (ct_q sv s)) (nI s) = _
      unfold f_X10_count_l107
      rw [h7.2.1, if_pos (nI_le (Nat.le_refl _) (by omega))]
  unfold f_X9_count f_X10_count
  rw [a1, a2, a3, a4, x1, x2, h7.1, h7.2.1, h8.2.2.1, h8.2.2.2.1, f2, f3, h8.2.2.2.2.2.1, h8.2.2.2.2.2.2.1]
  by_cases b0 : a = 0
  · rw [if_pos b0, if_pos b0]; exact ⟨_, rfl, rfl⟩
  rw [if_neg b0, if_neg b0]
  by_cases b0 : a = 1
  · rw [if_pos b0, if_pos b0]; exact ⟨_, rfl, rfl⟩
  rw [if_neg b0, if_neg b0]
  by_cases b0 : a = 2
  · rw [if_pos b0, if_pos b0]; exact ⟨_, rfl, rfl⟩
  rw [if_neg b0, if_neg b0]
  by_cases b0 : a = 3
  · rw [if_pos b0, if_pos b0]; exact ⟨_, rfl, rfl⟩
  rw [if_neg b0, if_neg b0]
  by_cases b0 : a = 4
  · rw [if_pos b0, if_pos b0]; exact ⟨_, rfl, rfl⟩
  rw [if_neg b0, if_neg b0]
  by_cases b0 : a = 5
  · rw [if_pos b0, if_pos b0]; exact ⟨_, rfl, rfl⟩
  rw [if_neg b0, if_neg b0]
  by_cases b0 : a = 6
  · rw [if_pos b0, if_pos b0]; exact ⟨_, rfl, rfl⟩
  rw [if_neg b0, if_neg b0]
  exact ⟨_, rfl, rfl⟩
