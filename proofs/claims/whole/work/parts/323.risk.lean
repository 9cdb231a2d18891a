/-! whose, falls, moves, telegraph -/
theorem kI_lay {I I' : rk_I} (h : ∀ q, q ≠ 47 → q ≠ 48 → I' q = I q) : kI I I' := fun k i hk => by
  unfold kp at hk
  rw [h k (by omega) (by omega)]
/-- both sides over one state: what the class's ledger holds, what the reference lays -/
theorem lz_both {n c s : Nat} {oc os : Nat → Nat} {sv cv : pv_V} {S : rk_Sh} {I : rk_I} {R : rk_R} (hB : pv_B c s sv cv) (hX : pv_X n c s oc os sv cv S I R) (hY : pv_Y c s sv cv I) {g w t h : Nat} (hg : g < c) (hw : w < 2) (ht : t < 1000) (hh : h < 10) : ∃ I1 R1 I2 m L d, f_X9_heldAt S I R (oc g) (nI h) (nI t) (nI w) = some (nI (lg_H sv L (lg_0 cv g) d h), I1, R1) ∧ f_X10_lays I1 (nI g) (nI t) (nI w) = some I2 ∧ lg_L sv (fun k => ps sv cv k w) s g m L ∧ lg_d (fun k => ps sv cv k w) m L t d ∧ (∀ x, x < 10 → I2 47 x = nI (lg_H sv L (lg_0 cv g) d x)) ∧ kI I I1 ∧ kI I1 I2 ∧ kR R R1 := by
  obtain ⟨I1, R1, m, L, d, e1, p1, p2, p3, p4, p5⟩ := lc_held hB hX hg hw (by omega : t < 2147483648) hh
  obtain ⟨I2, e2, q1, q2⟩ := ly_lays hB (kY hY (kI_led p4)) hg hw ht p1 p2
  exact ⟨I1, R1, I2, m, L, d, e1, e2, p1, p2, q1, kI_led p4, kI_lay q2, kR_led p5⟩
theorem pg_two (a : Int32) : (∃ w, w < 2 ∧ a = nI w ∧ f_X10_in a.toInt64 0 1 = some 1) ∨ ((¬ a = 0 ∧ ¬ a = 1) ∧ f_X10_in a.toInt64 0 1 = some 0) := by
  rcases pr_inN (x := a) (h := 1) (n := 2) (by omega) (by decide) with ⟨j, h1, rfl, h3⟩ | ⟨h1, h3⟩
  · exact Or.inl ⟨j, h1, rfl, h3⟩
  · refine Or.inr ⟨⟨?_, ?_⟩, h3⟩
    · intro e
      rw [e] at h1
      have : (0 : Int32).toInt = 0 := by decide
      omega
    · intro e
      rw [e] at h1
      have : (1 : Int32).toInt = 1 := by decide
      omega
theorem pg_cargo' {n c s : Nat} {oc os : Nat → Nat} {sv cv : pv_V} {S : rk_Sh} {I : rk_I} {R : rk_R} (hB : pv_B c s sv cv) (hX : pv_X n c s oc os sv cv S I R) (hY : pv_Y c s sv cv I) (a : Int32) : (∃ k, k < c ∧ a = nI k ∧ f_X9_cargoAt I R a = some (some (oc k)) ∧ ∀ I', kI I I' → f_X10_isCargo I' a = some 1) ∨ (f_X9_cargoAt I R a = some none ∧ ∀ I', kI I I' → f_X10_isCargo I' a = some 0) := by
  have e : ∀ I', kI I I' → f_X10_isCargo I' a = f_X10_isCargo I a := fun I' h => by
    unfold f_X10_isCargo
    rw [h 31 10 (by unfold kp; omega)]
  rcases pg_cargo (I' := I) hB.1 hX.2.1 (fun k hk => (hX.2.2.2.2 k hk).1) hY.1 a with ⟨k, g1, g2, g3, g4⟩ | ⟨g3, g4⟩
  · exact Or.inl ⟨k, g1, g2, g3, fun I' h => (e I' h).trans g4⟩
  · exact Or.inr ⟨g3, fun I' h => (e I' h).trans g4⟩
theorem pg_sale' {n c s : Nat} {oc os : Nat → Nat} {sv cv : pv_V} {S : rk_Sh} {I : rk_I} {R : rk_R} (hB : pv_B c s sv cv) (hX : pv_X n c s oc os sv cv S I R) (hY : pv_Y c s sv cv I) (a : Int32) : (∃ k, k < s ∧ a = nI k ∧ f_X9_saleAt I R a = some (some (os k)) ∧ ∀ I', kI I I' → f_X10_isSale I' a = some 1) ∨ (f_X9_saleAt I R a = some none ∧ ∀ I', kI I I' → f_X10_isSale I' a = some 0) := by
  have e : ∀ I', kI I I' → f_X10_isSale I' a = f_X10_isSale I a := fun I' h => by
    unfold f_X10_isSale
    rw [h 31 20 (by unfold kp; omega)]
  rcases pg_sale (I' := I) hB.2.1 hX.2.2.1 (fun k hk => (hX.2.2.2.1 k hk).1) hY.2.1 a with ⟨k, g1, g2, g3, g4⟩ | ⟨g3, g4⟩
  · exact Or.inl ⟨k, g1, g2, g3, fun I' h => (e I' h).trans g4⟩
  · exact Or.inr ⟨g3, fun I' h => (e I' h).trans g4⟩
theorem ck_whose {n : Nat} {S : rk_Sh} {I : rk_I} {R : rk_R} (h : iv n S I R) (a b d e : Int32) : ∃ v I1 R1 I2, f_X9_whose S I R a b d e = some (v, I1, R1) ∧ f_X10_whose I1 a b d e = some (v, I2) ∧ iv n S I2 R1 := by
  have h' := h
  obtain ⟨c, s, t, r, oc, os, ot, sv, cv, h1, h2, h3, h4, h5, h6, h7, h8, h9, h10, h11⟩ := h
  have bad : f_X9_whose S I R a b d e = some (-2, I, R) → f_X10_whose I a b d e = some (-2, I) → ∃ v I1 R1 I2, f_X9_whose S I R a b d e = some (v, I1, R1) ∧ f_X10_whose I1 a b d e = some (v, I2) ∧ iv n S I2 R1 := fun P Q => ⟨-2, I, R, I, P, Q, h'⟩
  rcases pg_cargo' h5 h6 h7 a with ⟨g, g1, rfl, g3, g4⟩ | ⟨g3, g4⟩
  · have ck : rk_ck S (oc g) 0 5 = some () := pr_ck (h6.2.2.2.2 g g1).2.1
    rcases pg_hand b with ⟨x, x1, rfl, x3, x4⟩ | ⟨-, x3, x4⟩
    · rcases pg_hour d with ⟨y, y1, rfl, y3, y4⟩ | ⟨-, y3, y4⟩
      · rcases pg_two e with ⟨w, w1, rfl, w3⟩ | ⟨⟨w1, w2⟩, w3⟩
        · obtain ⟨I1, R1, I2, m, L, dd, e1, e2, p1, p2, p3, p4, p5, p6⟩ := lz_both h5 h6 h7 g1 w1 y1 x1
          refine ⟨nI (lg_H sv L (lg_0 cv g) dd x), I1, R1, I2, ?_, ?_, iv_k h' (kI_t p4 p5) p6⟩
          · unfold f_X9_whose
            rw [g3, pr_sb, pr_oc1, x3, pr_sb, if_neg (by decide), y3, pr_sb, if_neg (by decide)]
            rcases (by omega : w = 0 ∨ w = 1) with rfl | rfl
            · rw [if_pos (by decide), e1, pr_b3, ck]
              rfl
            · rw [if_neg (by decide), if_pos (by decide), e1, pr_b3, ck]
              rfl
          · unfold f_X10_whose
            rw [g4 I1 p4, pr_sb, if_neg (by decide), x4, pr_sb, if_neg (by decide), y4, pr_sb, if_neg (by decide), w3, pr_sb, if_neg (by decide), e2, pr_sb, pr_rd x1 (by omega), p3 x x1]
            rfl
        · refine bad ?_ ?_
          · unfold f_X9_whose
            rw [g3, pr_sb, pr_oc1, x3, pr_sb, if_neg (by decide), y3, pr_sb, if_neg (by decide), if_neg w1, if_neg w2]
          · unfold f_X10_whose
            rw [g4 I (kI_r _), pr_sb, if_neg (by decide), x4, pr_sb, if_neg (by decide), y4, pr_sb, if_neg (by decide), w3]
            rfl
      · refine bad ?_ ?_
        · unfold f_X9_whose
          rw [g3, pr_sb, pr_oc1, x3, pr_sb, if_neg (by decide), y3]
          rfl
        · unfold f_X10_whose
          rw [g4 I (kI_r _), pr_sb, if_neg (by decide), x4, pr_sb, if_neg (by decide), y4]
          rfl
    · refine bad ?_ ?_
      · unfold f_X9_whose
        rw [g3, pr_sb, pr_oc1, x3]
        rfl
      · unfold f_X10_whose
        rw [g4 I (kI_r _), pr_sb, if_neg (by decide), x4]
        rfl
  · refine bad ?_ ?_
    · unfold f_X9_whose
      rw [g3]
      rfl
    · unfold f_X10_whose
      rw [g4 I (kI_r _)]
      rfl
theorem ck_telegraph {n : Nat} {S : rk_Sh} {I : rk_I} {R : rk_R} (h : iv n S I R) (a b : Int32) : ∃ v I1 R1 I2, f_X9_telegraph S I R a b = some (v, I1, R1) ∧ f_X10_telegraph I1 a b = some (v, I2) ∧ iv n S I2 R1 := by
  have h' := h
  obtain ⟨c, s, t, r, oc, os, ot, sv, cv, h1, h2, h3, h4, h5, h6, h7, h8, h9, h10, h11⟩ := h
  have bad : f_X9_telegraph S I R a b = some (-2, I, R) → f_X10_telegraph I a b = some (-2, I) → ∃ v I1 R1 I2, f_X9_telegraph S I R a b = some (v, I1, R1) ∧ f_X10_telegraph I1 a b = some (v, I2) ∧ iv n S I2 R1 := fun P Q => ⟨-2, I, R, I, P, Q, h'⟩
  rcases pg_cargo' h5 h6 h7 a with ⟨g, g1, rfl, g3, g4⟩ | ⟨g3, g4⟩
  · have ck : rk_ck S (oc g) 0 5 = some () := pr_ck (h6.2.2.2.2 g g1).2.1
    rcases pg_hour b with ⟨y, y1, rfl, y3, y4⟩ | ⟨-, y3, y4⟩
    · obtain ⟨I1, R1, m, L, e1, p1, p2, p3, p4, p5, p6, p7⟩ := lc_open (w := 1) h5 h6 g1 (by omega)
      have e1 : f_X1_open S I R (oc g) (nI s) 1 = some (I1, R1) := e1
      obtain ⟨I2, d, e2, q1, q2, q3, q4, q5, q6⟩ := lc_run h5 (kX h6 (kI_led p6) (kR_led p7)) g1 (by omega : y < 2147483648) p1 p2 p3 p4 p5 (Nat.zero_le _) (fun i hi => absurd hi (Nat.not_lt_zero i))
      have f2 : ∀ q i, q ≠ 12 → q ≠ 13 → q ≠ 15 → I2 q i = I q i := fun q i a b e => by rw [q6 q i b (fun z => a z.1), p6 q i a b e]
      have hX2 := kX h6 (kI_led f2) (kR_led p7)
      have hY2 := kY h7 (kI_led f2)
      obtain ⟨I3, e3, r1, r2⟩ := ly_lays (w := 1) h5 hY2 g1 (by omega) y1 p1 q2
      have e3 : f_X10_lays I2 (nI g) (nI y) 1 = some I3 := e3
      have hs := h5.2.1
      let B : Nat → Int32 := fun k => Nat.rec 0 (fun j x => if sv j 1 = g then (if sv j 6 ≤ y then x else if lg_H sv L (lg_0 cv g) d (sv j 2) = 0 then x else x ||| (1 <<< (nI j &&& 31))) else x) k
      have B1 : ∀ k, B (k + 1) = if sv k 1 = g then (if sv k 6 ≤ y then B k else if lg_H sv L (lg_0 cv g) d (sv k 2) = 0 then B k else B k ||| (1 <<< (nI k &&& 31))) else B k := fun k => rfl
      have hHb := lg_Hb h5 p1 g1 d q2.1
      have hm := p1.1
      have hdm := q2.1
      have c1 : rk_while (fun a9 : Int32 × Int32 => f_X9_telegraph_l51 S I2 R1 (nI y) (oc g) a9.1 a9.2) (0, 0) = some (B s, nI s) := by
        refine pr_run (f := fun a9 : Int32 × Int32 => f_X9_telegraph_l51 S I2 R1 (nI y) (oc g) a9.1 a9.2) (fun k => (B k, nI k)) s ?_ ?_
        · intro k hk
          show f_X9_telegraph_l51 S I2 R1 (nI y) (oc g) (B k) (nI k) = _
          obtain ⟨k0, k1, k2, -, k4, -, -, -, k8, -⟩ := hX2.2.2.2.1 k hk
          have hb := h5.2.2.1 k hk
          have hd := (hX2.2.2.2.2 (sv k 1) hb.2.1).2.1
          have hv := hHb (sv k 2)
          unfold f_X9_telegraph_l51
          rw [hX2.2.2.1, if_neg (nI_ge hk (by omega)), pr_rdR (by omega) (by omega), k0, pr_sb, pr_dr k1, pr_sb, pr_sb, k2, pr_dr hd, pr_sb, k8, k4, pr_rd hb.2.2.1 (by omega), q5 _ hb.2.2.1, pr_sb, nI_1, B1]
          by_cases z1 : sv k 1 = g
          · rw [if_pos (by rw [z1]), if_pos z1]
            by_cases z2 : sv k 6 ≤ y
            · rw [if_pos (nI_le z2 (by omega)), if_pos z2]
            · rw [if_neg (nI_ge (by omega) (by omega)), if_neg z2]
              by_cases z3 : lg_H sv L (lg_0 cv g) d (sv k 2) = 0
              · rw [z3, if_pos (by decide), if_pos rfl]
              · rw [if_neg (nI_nle (by omega) (by omega)), if_neg z3]
          · rw [if_neg (fun e => z1 (h6.1.2.2.1 _ _ hb.2.1 g1 e)), if_neg z1]
        · show f_X9_telegraph_l51 S I2 R1 (nI y) (oc g) (B s) (nI s) = _
          unfold f_X9_telegraph_l51
          rw [hX2.2.2.1, if_pos (nI_le (Nat.le_refl _) (by omega))]
      have hY3 := kY hY2 (kI_lay r2)
      have c2 : rk_while (fun a9 : Int32 × Int32 => f_X10_telegraph_l30 I3 (nI g) (nI y) a9.1 a9.2) (0, 0) = some (B s, nI s) := by
        refine pr_run (f := fun a9 : Int32 × Int32 => f_X10_telegraph_l30 I3 (nI g) (nI y) a9.1 a9.2) (fun k => (B k, nI k)) s ?_ ?_
        · intro k hk
          show f_X10_telegraph_l30 I3 (nI g) (nI y) (B k) (nI k) = _
          obtain ⟨-, k1, k2, -, -, -, k6, -⟩ := hY3.2.2.1 k hk
          have hb := h5.2.2.1 k hk
          have hv := hHb (sv k 2)
          have hc := h5.1
          unfold f_X10_telegraph_l30
          have or0 : ∀ x : Int32, x ||| 0 = x := fun x => by
            apply Int32.toBitVec_inj.mp
            rw [Int32.toBitVec_or]
            exact BitVec.or_zero
          rw [hY3.2.1, if_neg (nI_ge hk (by omega)), pr_rd (by omega) (by omega), k1, pr_sb, pr_rd (by omega) (by omega), k6, pr_sb, pr_rd (by omega) (by omega), k2, pr_sb, pr_rd hb.2.2.1 (by omega), r1 _ hb.2.2.1, pr_sb, nI_1, B1]
          by_cases z1 : sv k 1 = g
          · rw [if_pos (by rw [z1]), if_pos z1]
            by_cases z2 : sv k 6 ≤ y
            · rw [if_pos (nI_le z2 (by omega)), if_pos z2, or0]
            · rw [if_neg (nI_ge (by omega) (by omega)), if_neg z2]
              by_cases z3 : lg_H sv L (lg_0 cv g) d (sv k 2) = 0
              · rw [z3, if_pos (by decide), if_pos rfl, or0]
              · rw [if_neg (nI_nle (by omega) (by omega)), if_neg z3]
          · rw [if_neg (fun e => z1 ((nI_eq (by omega) (by omega)).mp e)), if_neg z1, or0]
        · show f_X10_telegraph_l30 I3 (nI g) (nI y) (B s) (nI s) = _
          unfold f_X10_telegraph_l30
          rw [hY3.2.1, if_pos (nI_le (Nat.le_refl _) (by omega))]
      refine ⟨B s, I2, R1, I3, ?_, ?_, iv_k h' (kI_t (kI_led f2) (kI_lay r2)) (kR_led p7)⟩
      · unfold f_X9_telegraph
        rw [g3, pr_sb, pr_oc1, y3, pr_sb, if_neg (by decide), h6.2.2.1, e1, pr_b2, ck, pr_sb, e2, pr_sb, c1, pr_b2]
      · unfold f_X10_telegraph
        rw [g4 I2 (kI_led f2), pr_sb, if_neg (by decide), y4, pr_sb, if_neg (by decide), e3, pr_sb, c2, pr_b2]
    · refine bad ?_ ?_
      · unfold f_X9_telegraph
        rw [g3, pr_sb, pr_oc1, y3]
        rfl
      · unfold f_X10_telegraph
        rw [g4 I (kI_r _), pr_sb, if_neg (by decide), y4]
        rfl
  · refine bad ?_ ?_
    · unfold f_X9_telegraph
      rw [g3]
      rfl
    · unfold f_X10_telegraph
      rw [g4 I (kI_r _)]
      rfl
