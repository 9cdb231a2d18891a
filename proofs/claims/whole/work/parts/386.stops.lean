/-! stops -/
def sp_V (s : Nat) (os : Nat → Nat) (S : rk_Sh) (I : rk_I) (R : rk_R) (h : Int32) (zf : Nat → Int32) : Prop := ∀ k, k < s → (∀ I', kI I I' → ∃ I1, f_X9_ruled S I' R (nI 2) (os k) h = some (zf k, I1) ∧ kI I I1) ∧ ∀ I' J, kI I I' → ∃ I2 J2, f_X10_read I' J (I' 31 4) (nI k) h (nI 2) = some (zf k, I2, J2) ∧ kI I I2
theorem sp_all {n c s t r : Nat} {oc os ot : Nat → Nat} {sv cv : pv_V} {S : rk_Sh} {I : rk_I} {R : rk_R} (hB : pv_B c s sv cv) (hX : pv_X n c s oc os sv cv S I R) (hY : pv_Y c s sv cv I) (hTt : pv_T n t r ot S I R) (h : Int32) : ∃ zf : Nat → Int32, sp_V s os S I R h zf :=
  ⟨fun k => if hk : k < s then Classical.choose (rl_both hB hX hY hTt hk (w := 2) (by omega) h) else 0, fun k hk => by
    simp only [dif_pos hk]
    exact Classical.choose_spec (rl_both hB hX hY hTt hk (w := 2) (by omega) h)⟩
def st_B (zf : Nat → Int32) (sv cv : pv_V) (h : Int32) (k : Nat) : Int32 := if nI (sv k 7) - 1 = -1 ∨ h < nI (sv k 7) - 1 then (if nI (ps sv cv k 0) ≤ h then 0 else if zf k = 0 then 0 else 1) else 0
def st_V (zf : Nat → Int32) (sv cv : pv_V) (h u : Int32) : Nat → Int32
  | 0 => 0
  | k + 1 => if nI (sv k 3) = u then (if st_B zf sv cv h k = 0 then st_V zf sv cv h u k else st_V zf sv cv h u k ||| (1 <<< (nI k &&& 31))) else st_V zf sv cv h u k
section ST
variable {n c s : Nat} {oc os : Nat → Nat} {sv cv : pv_V} {S : rk_Sh} {I : rk_I} {R : rk_R} {h : Int32} {zf : Nat → Int32}
theorem st_s (u : Int32) (k : Nat) : st_V zf sv cv h u (k + 1) = if nI (sv k 3) = u then (if st_B zf sv cv h k = 0 then st_V zf sv cv h u k else st_V zf sv cv h u k ||| (1 <<< (nI k &&& 31))) else st_V zf sv cv h u k := rfl
theorem st_can (hB : pv_B c s sv cv) (hX : pv_X n c s oc os sv cv S I R) (hv : sp_V s os S I R h zf) {k : Nat} (hk : k < s) {I' : rk_I} (hI : kI I I') : ∃ I1, f_X9_canBeStopped S I' R (os k) h = some (st_B zf sv cv h k, I1) ∧ kI I I1 := by
  have hX' := kX hX hI (kR_r R)
  obtain ⟨-, -, -, q4, -, q5, -, -, -, q9, -⟩ := hX'.2.2.2.1 k hk
  have hT : f_X5_thingHour S I' R (os k) = some (nI (ps sv cv k 0)) := pc_T hB hX'.2.2.2.1 hX'.2.2.2.2 hk
  have j20 : ∃ I1, f_X9_canBeStopped_j20 S I' R (os k) h = some ((if nI (ps sv cv k 0) ≤ h then 0 else if zf k = 0 then 0 else 1), I1) ∧ kI I I1 := by
    unfold f_X9_canBeStopped_j20 f_X9_canBeStopped_j21
    rw [if_pos (by decide), hT, pr_sb]
    by_cases g : nI (ps sv cv k 0) ≤ h
    · rw [if_pos g, if_pos g]
      exact ⟨I', rfl, hI⟩
    · rw [if_neg g, if_neg g]
      obtain ⟨I1, e1, r1⟩ := (hv k hk).1 I' hI
      rw [show f_X9_ruled S I' R 2 (os k) h = _ from e1, cq_b2]
      by_cases g2 : zf k = 0
      · rw [if_pos g2, if_pos g2]
        exact ⟨I1, rfl, r1⟩
      · rw [if_neg g2, if_neg g2]
        exact ⟨I1, rfl, r1⟩
  unfold f_X9_canBeStopped st_B
  rw [q9]
  by_cases g1 : nI (sv k 7) - 1 = -1
  · rw [if_pos g1, if_pos (Or.inl g1)]
    exact j20
  · rw [if_neg g1]
    by_cases g2 : h < nI (sv k 7) - 1
    · rw [if_pos g2, if_pos (Or.inr g2)]
      exact j20
    · rw [if_neg g2, if_neg (fun z => z.elim g1 g2)]
      refine ⟨I', ?_, hI⟩
      unfold f_X9_canBeStopped_j21
      rw [if_neg (by decide)]
theorem st_c (hB : pv_B c s sv cv) (hX : pv_X n c s oc os sv cv S I R) (hv : sp_V s os S I R h zf) (u : Int32) : ∃ I1, rk_while (fun a9 : Int32 × Int32 × rk_I => f_X9_stops_l22 S a9.2.2 R u h a9.1 a9.2.1) (0, 0, I) = some (st_V zf sv cv h u s, nI s, I1) ∧ kI I I1 := by
  have hs24 := hB.2.1
  have hw := pr_for0 (f := fun a9 : Int32 × Int32 × rk_I => f_X9_stops_l22 S a9.2.2 R u h a9.1 a9.2.1) (fun k a => ∃ I', a = (st_V zf sv cv h u k, nI k, I') ∧ kI I I') s (fun b => ∃ I', b = (st_V zf sv cv h u s, nI s, I') ∧ kI I I') (0, 0, I) ⟨I, rfl, kI_r I⟩ (fun k a hk hP => by
    obtain ⟨I', rfl, hI⟩ := hP
    have hX' := kX hX hI (kR_r R)
    obtain ⟨q1, q2, q3, q4, q5, q6, -⟩ := hX'.2.2.2.1 k hk
    have e3 : I' 0 3 = nI s := hX'.2.2.1
    obtain ⟨I1, e1, r1⟩ := st_can hB hX hv hk hI
    refine Or.inl ?_
    have start : f_X9_stops_l22 S I' R u h (st_V zf sv cv h u k) (nI k) = if nI (sv k 3) = u then (if st_B zf sv cv h k = 0 then some (.inl (st_V zf sv cv h u k, (nI k + 1), I1)) else some (.inl ((st_V zf sv cv h u k ||| (1 <<< (nI k &&& 31))), (nI k + 1), I1))) else some (.inl (st_V zf sv cv h u k, (nI k + 1), I')) := by
      unfold f_X9_stops_l22
      rw [e3, if_neg (nI_ge hk (by omega)), pr_rdR (by omega) (by omega), pr_sb, q1, pr_dr q2, pr_sb, q6, e1, cq_b2]
    by_cases g1 : nI (sv k 3) = u
    · refine ⟨(st_V zf sv cv h u (k + 1), nI (k + 1), I1), ?_, I1, rfl, r1⟩
      show f_X9_stops_l22 S I' R u h (st_V zf sv cv h u k) (nI k) = _
      rw [start, if_pos g1, nI_1, st_s, if_pos g1]
      by_cases g2 : st_B zf sv cv h k = 0
      · rw [if_pos g2, if_pos g2]
      · rw [if_neg g2, if_neg g2]
    · refine ⟨(st_V zf sv cv h u (k + 1), nI (k + 1), I'), ?_, I', rfl, hI⟩
      show f_X9_stops_l22 S I' R u h (st_V zf sv cv h u k) (nI k) = _
      rw [start, if_neg g1, nI_1, st_s, if_neg g1]) (fun a hP => by
    obtain ⟨I', rfl, hI⟩ := hP
    refine ⟨(st_V zf sv cv h u s, nI s, I'), ?_, I', rfl, hI⟩
    show f_X9_stops_l22 S I' R u h (st_V zf sv cv h u s) (nI s) = _
    unfold f_X9_stops_l22
    rw [hI 0 3 (by unfold kp; omega), hX.2.2.1, if_pos (nI_le (Nat.le_refl _) (by omega))])
  obtain ⟨b, e, I1, rfl, r⟩ := hw
  exact ⟨I1, e, r⟩
theorem st_m (hB : pv_B c s sv cv) (hY : pv_Y c s sv cv I) (hv : sp_V s os S I R h zf) (u : Int32) (I0 : rk_I) (J0 : rk_J) (hI0 : kI I I0) : ∃ I1 J1, rk_while (fun a9 : Int32 × Int32 × rk_I × rk_J => f_X10_stops_l22 a9.2.2.1 a9.2.2.2 u h a9.1 a9.2.1) (0, 0, I0, J0) = some (st_V zf sv cv h u s, nI s, I1, J1) ∧ kI I I1 := by
  have hs24 := hB.2.1
  have hw := pr_for0 (f := fun a9 : Int32 × Int32 × rk_I × rk_J => f_X10_stops_l22 a9.2.2.1 a9.2.2.2 u h a9.1 a9.2.1) (fun k a => ∃ I' J', a = (st_V zf sv cv h u k, nI k, I', J') ∧ kI I I') s (fun b => ∃ I' J', b = (st_V zf sv cv h u s, nI s, I', J') ∧ kI I I') (0, 0, I0, J0) ⟨I0, J0, rfl, hI0⟩ (fun k a hk hP => by
    obtain ⟨I', J', rfl, hI⟩ := hP
    have hY' := kY hY hI
    obtain ⟨y0, y1, y2, y3, y4, y5, y6, y7, y8⟩ := hY'.2.2.1 k hk
    have e20 : I' 31 20 = nI s := hY'.2.1
    have hT : f_X10_passes I' (nI k) 0 = some (nI (ps sv cv k 0)) := pm_P hB hY'.2.2.1 hY'.2.2.2 hk (w := 0) (by omega)
    refine Or.inl ?_
    obtain ⟨I1, J1, e1, r1⟩ := (hv k hk).2 I' J' hI
    have j78 : f_X10_stops_j78 I' J' u h (st_V zf sv cv h u k) (nI k) = if zf k = 0 then some (.inl (st_V zf sv cv h u k, nI k + 1, I1, J1)) else some (.inl (st_V zf sv cv h u k ||| (1 <<< (nI k &&& 31)), nI k + 1, I1, J1)) := by
      unfold f_X10_stops_j78
      rw [show f_X10_read I' J' (I' 31 4) (nI k) h 2 = _ from e1, cq_b3, Int32.or_zero]
    have start : f_X10_stops_l22 I' J' u h (st_V zf sv cv h u k) (nI k) = if nI (sv k 3) = u then (if nI (ps sv cv k 0) ≤ h then some (.inl (st_V zf sv cv h u k, (nI k + 1), I', J')) else if nI (sv k 7) - 1 = -1 then f_X10_stops_j78 I' J' u h (st_V zf sv cv h u k) (nI k) else (if h < nI (sv k 7) - 1 then f_X10_stops_j78 I' J' u h (st_V zf sv cv h u k) (nI k) else some (.inl (st_V zf sv cv h u k, (nI k + 1), I', J')))) else some (.inl (st_V zf sv cv h u k, (nI k + 1), I', J')) := by
      unfold f_X10_stops_l22
      rw [e20, if_neg (nI_ge hk (by omega)), pr_rd (by omega) (by omega), pr_sb, y3, hT, pr_sb, pr_rd (by omega) (by omega), pr_sb, pr_sb, y7]
    by_cases g1 : nI (sv k 3) = u
    · rw [if_pos g1] at start
      by_cases g2 : nI (ps sv cv k 0) ≤ h
      · have hb : st_B zf sv cv h k = 0 := by
          unfold st_B
          rw [if_pos g2]
          exact ite_self _
        refine ⟨(st_V zf sv cv h u (k + 1), nI (k + 1), I', J'), ?_, I', J', rfl, hI⟩
        show f_X10_stops_l22 I' J' u h (st_V zf sv cv h u k) (nI k) = _
        rw [start, if_pos g2, nI_1, st_s, if_pos g1, if_pos hb]
      · rw [if_neg g2] at start
        by_cases g3 : nI (sv k 7) - 1 = -1 ∨ h < nI (sv k 7) - 1
        · have hb : st_B zf sv cv h k = if zf k = 0 then 0 else 1 := by
            unfold st_B
            rw [if_pos g3, if_neg g2]
          have st2 : f_X10_stops_l22 I' J' u h (st_V zf sv cv h u k) (nI k) = f_X10_stops_j78 I' J' u h (st_V zf sv cv h u k) (nI k) := by
            rw [start]
            by_cases g4 : nI (sv k 7) - 1 = -1
            · rw [if_pos g4]
            · rw [if_neg g4, if_pos (g3.resolve_left g4)]
          refine ⟨(st_V zf sv cv h u (k + 1), nI (k + 1), I1, J1), ?_, I1, J1, rfl, r1⟩
          show f_X10_stops_l22 I' J' u h (st_V zf sv cv h u k) (nI k) = _
          rw [st2, j78, nI_1, st_s, if_pos g1, hb]
          by_cases g5 : zf k = 0
          · rw [if_pos g5, if_pos (by rw [if_pos g5])]
          · rw [if_neg g5, if_neg (by rw [if_neg g5]; decide)]
        · have hb : st_B zf sv cv h k = 0 := by
            unfold st_B
            rw [if_neg g3]
          refine ⟨(st_V zf sv cv h u (k + 1), nI (k + 1), I', J'), ?_, I', J', rfl, hI⟩
          show f_X10_stops_l22 I' J' u h (st_V zf sv cv h u k) (nI k) = _
          rw [start, if_neg (fun z => g3 (Or.inl z)), if_neg (fun z => g3 (Or.inr z)), nI_1, st_s, if_pos g1, if_pos hb]
    · refine ⟨(st_V zf sv cv h u (k + 1), nI (k + 1), I', J'), ?_, I', J', rfl, hI⟩
      show f_X10_stops_l22 I' J' u h (st_V zf sv cv h u k) (nI k) = _
      rw [start, if_neg g1, nI_1, st_s, if_neg g1]) (fun a hP => by
    obtain ⟨I', J', rfl, hI⟩ := hP
    refine ⟨(st_V zf sv cv h u s, nI s, I', J'), ?_, I', J', rfl, hI⟩
    show f_X10_stops_l22 I' J' u h (st_V zf sv cv h u s) (nI s) = _
    unfold f_X10_stops_l22
    rw [hI 31 20 (by unfold kp; omega), hY.2.1, if_pos (nI_le (Nat.le_refl _) (by omega))])
  obtain ⟨b, e, I1, J1, rfl, r⟩ := hw
  exact ⟨I1, J1, e, r⟩
end ST
theorem ck_stops {n : Nat} {S : rk_Sh} {I : rk_I} {R : rk_R} (h : iv n S I R) (J : rk_J) (a b : Int32) : ∃ v I1 I2 J2, f_X9_stops S I R a b = some (v, I1) ∧ f_X10_stops I1 J a b = some (v, I2, J2) ∧ iv n S I2 R := by
  have h' := h
  obtain ⟨c, s, t, r, oc, os, ot, sv, cv, h1, h2, h3, h4, h5, h6, h7, h8, h9, h10, h11⟩ := h
  have bad : f_X9_stops S I R a b = some (-2, I) → f_X10_stops I J a b = some (-2, I, J) → ∃ v I1 I2 J2, f_X9_stops S I R a b = some (v, I1) ∧ f_X10_stops I1 J a b = some (v, I2, J2) ∧ iv n S I2 R := fun P Q => ⟨_, I, I, J, P, Q, h'⟩
  rcases pg_hand a with ⟨x, x1, rfl, x3, x4⟩ | ⟨-, x3, x4⟩
  · rcases pg_hour b with ⟨y, y1, rfl, y3, y4⟩ | ⟨-, y3, y4⟩
    · obtain ⟨zf, hv⟩ := sp_all h5 h6 h7 h8 (nI y)
      obtain ⟨I1, e1, r1⟩ := st_c h5 h6 hv (nI x)
      obtain ⟨I2, J2, e2, r2⟩ := st_m h5 h7 hv (nI x) I1 J r1
      refine ⟨st_V zf sv cv (nI y) (nI x) s, I1, I2, J2, ?_, ?_, iv_k h' r2 (kR_r _)⟩
      · unfold f_X9_stops
        rw [x3, pr_sb, if_neg (by decide), y3, pr_sb, if_neg (by decide), e1]
        rfl
      · unfold f_X10_stops
        rw [x4, pr_sb, if_neg (by decide), y4, pr_sb, if_neg (by decide), e2]
        rfl
    · refine bad ?_ ?_
      · unfold f_X9_stops
        rw [x3, pr_sb, if_neg (by decide), y3]
        rfl
      · unfold f_X10_stops
        rw [x4, pr_sb, if_neg (by decide), y4]
        rfl
  · refine bad ?_ ?_
    · unfold f_X9_stops
      rw [x3]
      rfl
    · unfold f_X10_stops
      rw [x4]
      rfl
