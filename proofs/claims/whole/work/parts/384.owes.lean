/-! owes, balance -/
def ow_V (s : Nat) (os : Nat → Nat) (S : rk_Sh) (I : rk_I) (R : rk_R) (h : Int32) (vf : Nat → Int64) : Prop := ∀ k, k < s → (∀ I', kI I I' → ∃ I1, f_X9_owedFor S I' R (os k) h = some (vf k, I1) ∧ kI I I1) ∧ ∀ I' J, kI I I' → ∃ I2 J2, f_X10_owesOf I' J (nI k) h = some (vf k, I2, J2) ∧ kI I I2
theorem ow_all {n c s t r : Nat} {oc os ot : Nat → Nat} {sv cv : pv_V} {S : rk_Sh} {I : rk_I} {R : rk_R} (hB : pv_B c s sv cv) (hX : pv_X n c s oc os sv cv S I R) (hY : pv_Y c s sv cv I) (hTt : pv_T n t r ot S I R) (h : Int32) : ∃ vf : Nat → Int64, ow_V s os S I R h vf :=
  ⟨fun k => if hk : k < s then Classical.choose (ow_both hB hX hY hTt hk h) else 0, fun k hk => by
    simp only [dif_pos hk]
    exact Classical.choose_spec (ow_both hB hX hY hTt hk h)⟩
theorem ck_owes {n : Nat} {S : rk_Sh} {I : rk_I} {R : rk_R} (h : iv n S I R) (J : rk_J) (a b : Int32) : ∃ v I1 I2 J2, f_X9_owes S I R a b = some (v, I1) ∧ f_X10_owes I1 J a b = some (v, I2, J2) ∧ iv n S I2 R := by
  have h' := h
  obtain ⟨c, s, t, r, oc, os, ot, sv, cv, h1, h2, h3, h4, h5, h6, h7, h8, h9, h10, h11⟩ := h
  have bad : f_X9_owes S I R a b = some (-4611686018427387904, I) → f_X10_owes I J a b = some (-4611686018427387904, I, J) → ∃ v I1 I2 J2, f_X9_owes S I R a b = some (v, I1) ∧ f_X10_owes I1 J a b = some (v, I2, J2) ∧ iv n S I2 R := fun P Q => ⟨_, I, I, J, P, Q, h'⟩
  rcases pg_sale' h5 h6 h7 a with ⟨k, k1, rfl, k3, k4⟩ | ⟨k3, k4⟩
  · rcases pg_hour b with ⟨y, y1, rfl, y3, y4⟩ | ⟨-, y3, y4⟩
    · obtain ⟨v, cl, rf⟩ := ow_both h5 h6 h7 h8 k1 (nI y)
      obtain ⟨I1, e1, r1⟩ := cl I (kI_r _)
      obtain ⟨I2, J2, e2, r2⟩ := rf I1 J r1
      refine ⟨v, I1, I2, J2, ?_, ?_, iv_k h' r2 (kR_r _)⟩
      · unfold f_X9_owes
        rw [k3, pr_sb, pr_oc1, y3, pr_sb, if_neg (by decide), e1, cq_b2, pr_ck (h6.2.2.2.1 k k1).2.1]
        rfl
      · unfold f_X10_owes
        rw [k4 I1 r1, pr_sb, if_neg (by decide), y4, pr_sb, if_neg (by decide), e2]
        rfl
    · refine bad ?_ ?_
      · unfold f_X9_owes
        rw [k3, pr_sb, pr_oc1, y3]
        rfl
      · unfold f_X10_owes
        rw [k4 I (kI_r _), pr_sb, if_neg (by decide), y4]
        rfl
  · refine bad ?_ ?_
    · unfold f_X9_owes
      rw [k3]
      rfl
    · unfold f_X10_owes
      rw [k4 I (kI_r _)]
      rfl
def bl_V (vf : Nat → Int64) (sv : pv_V) (u : Int32) : Nat → Int64
  | 0 => 0
  | k + 1 => if nI (sv k 2) = u then bl_V vf sv u k + vf k else if nI (sv k 3) = u then bl_V vf sv u k - vf k else bl_V vf sv u k
section BL
variable {n c s : Nat} {oc os : Nat → Nat} {sv cv : pv_V} {S : rk_Sh} {I : rk_I} {R : rk_R} {h : Int32} {vf : Nat → Int64}
theorem bl_s (u : Int32) (k : Nat) : bl_V vf sv u (k + 1) = if nI (sv k 2) = u then bl_V vf sv u k + vf k else if nI (sv k 3) = u then bl_V vf sv u k - vf k else bl_V vf sv u k := rfl
theorem bl_c (hB : pv_B c s sv cv) (hX : pv_X n c s oc os sv cv S I R) (hv : ow_V s os S I R h vf) (u : Int32) : ∃ I1, rk_while (fun a9 : Int64 × Int32 × rk_I => f_X9_balance_l23 S a9.2.2 R u h a9.1 a9.2.1) (0, 0, I) = some (bl_V vf sv u s, nI s, I1) ∧ kI I I1 := by
  have hs24 := hB.2.1
  have hw := pr_for0 (f := fun a9 : Int64 × Int32 × rk_I => f_X9_balance_l23 S a9.2.2 R u h a9.1 a9.2.1) (fun k a => ∃ I', a = (bl_V vf sv u k, nI k, I') ∧ kI I I') s (fun b => ∃ I', b = (bl_V vf sv u s, nI s, I') ∧ kI I I') (0, 0, I) ⟨I, rfl, kI_r I⟩ (fun k a hk hP => by
    obtain ⟨I', rfl, hI⟩ := hP
    obtain ⟨q1, q2, q3, q4, q5, q6, -⟩ := hX.2.2.2.1 k hk
    have hos := (hX.1.2.1 k hk).1
    have ec : I' (os k) = I (os k) := kI_big hI (by omega)
    have e3 : I' 0 3 = nI s := (hI 0 3 (by unfold kp; omega)).trans hX.2.2.1
    refine Or.inl ?_
    have start : f_X9_balance_l23 S I' R u h (bl_V vf sv u k) (nI k) = if nI (sv k 2) = u then (rk_b2 (f_X9_owedFor S I' R (os k) h) fun x2 I2 => some (.inl ((bl_V vf sv u k + x2), (nI k + 1), I2))) else (if nI (sv k 3) = u then (rk_b2 (f_X9_owedFor S I' R (os k) h) fun x1 I1 => some (.inl ((bl_V vf sv u k - x1), (nI k + 1), I1))) else some (.inl (bl_V vf sv u k, (nI k + 1), I'))) := by
      unfold f_X9_balance_l23
      rw [e3, if_neg (nI_ge hk (by omega)), pr_rdR (by omega) (by omega), pr_sb, q1, pr_dr q2, pr_sb, ec, q5, q6]
    by_cases g2 : nI (sv k 2) = u
    · obtain ⟨I1, e1, r1⟩ := (hv k hk).1 I' hI
      refine ⟨(bl_V vf sv u (k + 1), nI (k + 1), I1), ?_, I1, rfl, r1⟩
      show f_X9_balance_l23 S I' R u h (bl_V vf sv u k) (nI k) = _
      rw [start, if_pos g2, e1, cq_b2, nI_1, bl_s, if_pos g2]
    · by_cases g3 : nI (sv k 3) = u
      · obtain ⟨I1, e1, r1⟩ := (hv k hk).1 I' hI
        refine ⟨(bl_V vf sv u (k + 1), nI (k + 1), I1), ?_, I1, rfl, r1⟩
        show f_X9_balance_l23 S I' R u h (bl_V vf sv u k) (nI k) = _
        rw [start, if_neg g2, if_pos g3, e1, cq_b2, nI_1, bl_s, if_neg g2, if_pos g3]
      · refine ⟨(bl_V vf sv u (k + 1), nI (k + 1), I'), ?_, I', rfl, hI⟩
        show f_X9_balance_l23 S I' R u h (bl_V vf sv u k) (nI k) = _
        rw [start, if_neg g2, if_neg g3, nI_1, bl_s, if_neg g2, if_neg g3]) (fun a hP => by
    obtain ⟨I', rfl, hI⟩ := hP
    refine ⟨(bl_V vf sv u s, nI s, I'), ?_, I', rfl, hI⟩
    show f_X9_balance_l23 S I' R u h (bl_V vf sv u s) (nI s) = _
    unfold f_X9_balance_l23
    rw [hI 0 3 (by unfold kp; omega), hX.2.2.1, if_pos (nI_le (Nat.le_refl _) (by omega))])
  obtain ⟨b, e, I1, rfl, r⟩ := hw
  exact ⟨I1, e, r⟩
theorem bl_m (hB : pv_B c s sv cv) (hY : pv_Y c s sv cv I) (hv : ow_V s os S I R h vf) (u : Int32) (I0 : rk_I) (J0 : rk_J) (hI0 : kI I I0) : ∃ I1 J1, rk_while (fun a9 : Int64 × Int32 × rk_I × rk_J => f_X10_balance_l23 a9.2.2.1 a9.2.2.2 u h a9.1 a9.2.1) (0, 0, I0, J0) = some (bl_V vf sv u s, nI s, I1, J1) ∧ kI I I1 := by
  have hs24 := hB.2.1
  have em : ∀ I', kI I I' → ∀ q, 32 ≤ q → q < 47 → I' q = I q := fun I' hI q a b => kI_at hI q (fun i => by unfold kp; omega)
  have hw := pr_for0 (f := fun a9 : Int64 × Int32 × rk_I × rk_J => f_X10_balance_l23 a9.2.2.1 a9.2.2.2 u h a9.1 a9.2.1) (fun k a => ∃ I' J', a = (bl_V vf sv u k, nI k, I', J') ∧ kI I I') s (fun b => ∃ I' J', b = (bl_V vf sv u s, nI s, I', J') ∧ kI I I') (0, 0, I0, J0) ⟨I0, J0, rfl, hI0⟩ (fun k a hk hP => by
    obtain ⟨I', J', rfl, hI⟩ := hP
    obtain ⟨y0, y1, y2, y3, -⟩ := hY.2.2.1 k hk
    have e20 : I' 31 20 = nI s := (hI 31 20 (by unfold kp; omega)).trans hY.2.1
    refine Or.inl ?_
    obtain ⟨I1, J1, e1, r1⟩ := (hv k hk).2 I' J' hI
    have start : f_X10_balance_l23 I' J' u h (bl_V vf sv u k) (nI k) = if nI (sv k 2) = u then f_X10_balance_j57 I' J' u h (bl_V vf sv u k) (nI k) else (if nI (sv k 3) = u then f_X10_balance_j57 I' J' u h (bl_V vf sv u k) (nI k) else some (.inl (bl_V vf sv u k, (nI k + 1), I', J'))) := by
      unfold f_X10_balance_l23
      rw [e20, if_neg (nI_ge hk (by omega)), pr_rd (by omega) (by omega), pr_sb, pr_rd (by omega) (by omega), pr_sb, em I' hI 40 (by omega) (by omega), em I' hI 41 (by omega) (by omega), y2, y3]
    have j57 : f_X10_balance_j57 I' J' u h (bl_V vf sv u k) (nI k) = if nI (sv k 2) = u then some (.inl ((bl_V vf sv u k + vf k), (nI k + 1), I1, J1)) else some (.inl ((bl_V vf sv u k + (-vf k)), (nI k + 1), I1, J1)) := by
      unfold f_X10_balance_j57
      rw [e1, cq_b3, pr_rd (by omega) (by omega), pr_sb, em I1 r1 40 (by omega) (by omega), y2]
    by_cases g2 : nI (sv k 2) = u
    · refine ⟨(bl_V vf sv u (k + 1), nI (k + 1), I1, J1), ?_, I1, J1, rfl, r1⟩
      show f_X10_balance_l23 I' J' u h (bl_V vf sv u k) (nI k) = _
      rw [start, if_pos g2, j57, if_pos g2, nI_1, bl_s, if_pos g2]
    · by_cases g3 : nI (sv k 3) = u
      · refine ⟨(bl_V vf sv u (k + 1), nI (k + 1), I1, J1), ?_, I1, J1, rfl, r1⟩
        show f_X10_balance_l23 I' J' u h (bl_V vf sv u k) (nI k) = _
        rw [start, if_neg g2, if_pos g3, j57, if_neg g2, nI_1, bl_s, if_neg g2, if_pos g3, Int64.sub_eq_add_neg]
      · refine ⟨(bl_V vf sv u (k + 1), nI (k + 1), I', J'), ?_, I', J', rfl, hI⟩
        show f_X10_balance_l23 I' J' u h (bl_V vf sv u k) (nI k) = _
        rw [start, if_neg g2, if_neg g3, nI_1, bl_s, if_neg g2, if_neg g3]) (fun a hP => by
    obtain ⟨I', J', rfl, hI⟩ := hP
    refine ⟨(bl_V vf sv u s, nI s, I', J'), ?_, I', J', rfl, hI⟩
    show f_X10_balance_l23 I' J' u h (bl_V vf sv u s) (nI s) = _
    unfold f_X10_balance_l23
    rw [hI 31 20 (by unfold kp; omega), hY.2.1, if_pos (nI_le (Nat.le_refl _) (by omega))])
  obtain ⟨b, e, I1, J1, rfl, r⟩ := hw
  exact ⟨I1, J1, e, r⟩
end BL
theorem ck_balance {n : Nat} {S : rk_Sh} {I : rk_I} {R : rk_R} (h : iv n S I R) (J : rk_J) (a b : Int32) : ∃ v I1 I2 J2, f_X9_balance S I R a b = some (v, I1) ∧ f_X10_balance I1 J a b = some (v, I2, J2) ∧ iv n S I2 R := by
  have h' := h
  obtain ⟨c, s, t, r, oc, os, ot, sv, cv, h1, h2, h3, h4, h5, h6, h7, h8, h9, h10, h11⟩ := h
  have bad : f_X9_balance S I R a b = some (-4611686018427387904, I) → f_X10_balance I J a b = some (-4611686018427387904, I, J) → ∃ v I1 I2 J2, f_X9_balance S I R a b = some (v, I1) ∧ f_X10_balance I1 J a b = some (v, I2, J2) ∧ iv n S I2 R := fun P Q => ⟨_, I, I, J, P, Q, h'⟩
  rcases pg_hand a with ⟨x, x1, rfl, x3, x4⟩ | ⟨-, x3, x4⟩
  · rcases pg_hour b with ⟨y, y1, rfl, y3, y4⟩ | ⟨-, y3, y4⟩
    · obtain ⟨vf, hv⟩ := ow_all h5 h6 h7 h8 (nI y)
      obtain ⟨I1, e1, r1⟩ := bl_c h5 h6 hv (nI x)
      obtain ⟨I2, J2, e2, r2⟩ := bl_m h5 h7 hv (nI x) I1 J r1
      refine ⟨bl_V vf sv (nI x) s, I1, I2, J2, ?_, ?_, iv_k h' r2 (kR_r _)⟩
      · unfold f_X9_balance
        rw [x3, pr_sb, if_neg (by decide), y3, pr_sb, if_neg (by decide), e1]
        rfl
      · unfold f_X10_balance
        rw [x4, pr_sb, if_neg (by decide), y4, pr_sb, if_neg (by decide), e2]
        rfl
    · refine bad ?_ ?_
      · unfold f_X9_balance
        rw [x3, pr_sb, if_neg (by decide), y3]
        rfl
      · unfold f_X10_balance
        rw [x4, pr_sb, if_neg (by decide), y4]
        rfl
  · refine bad ?_ ?_
    · unfold f_X9_balance
      rw [x3]
      rfl
    · unfold f_X10_balance
      rw [x4]
      rfl
