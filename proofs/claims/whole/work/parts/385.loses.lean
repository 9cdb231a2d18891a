/-! loses, stops -/
def ls_V (vf : Nat → Int64) (sv cv : pv_V) (h p q : Int32) : Nat → Int64
  | 0 => 0
  | k + 1 => if nI (sv k 3) = p then (if nI (sv k 2) = q then (if h < nI (ps sv cv k 0) then ls_V vf sv cv h p q k else ls_V vf sv cv h p q k + rk_lmax 0 (vf k)) else ls_V vf sv cv h p q k) else ls_V vf sv cv h p q k
section LS
variable {n c s : Nat} {oc os : Nat → Nat} {sv cv : pv_V} {S : rk_Sh} {I : rk_I} {R : rk_R} {h : Int32} {vf : Nat → Int64}
theorem ls_s (p q : Int32) (k : Nat) : ls_V vf sv cv h p q (k + 1) = if nI (sv k 3) = p then (if nI (sv k 2) = q then (if h < nI (ps sv cv k 0) then ls_V vf sv cv h p q k else ls_V vf sv cv h p q k + rk_lmax 0 (vf k)) else ls_V vf sv cv h p q k) else ls_V vf sv cv h p q k := rfl
theorem ls_c (hB : pv_B c s sv cv) (hX : pv_X n c s oc os sv cv S I R) (hv : ow_V s os S I R h vf) (p q : Int32) : ∃ I1, rk_while (fun a9 : Int64 × Int32 × rk_I => f_X9_loses_l45 S a9.2.2 R h p q a9.1 a9.2.1) (0, 0, I) = some (ls_V vf sv cv h p q s, nI s, I1) ∧ kI I I1 := by
  have hs24 := hB.2.1
  have hw := pr_for0 (f := fun a9 : Int64 × Int32 × rk_I => f_X9_loses_l45 S a9.2.2 R h p q a9.1 a9.2.1) (fun k a => ∃ I', a = (ls_V vf sv cv h p q k, nI k, I') ∧ kI I I') s (fun b => ∃ I', b = (ls_V vf sv cv h p q s, nI s, I') ∧ kI I I') (0, 0, I) ⟨I, rfl, kI_r I⟩ (fun k a hk hP => by
    obtain ⟨I', rfl, hI⟩ := hP
    have hX' := kX hX hI (kR_r R)
    obtain ⟨q1, q2, q3, q4, q5, q6, -⟩ := hX'.2.2.2.1 k hk
    have e3 : I' 0 3 = nI s := hX'.2.2.1
    have hT : f_X5_thingHour S I' R (os k) = some (nI (ps sv cv k 0)) := pc_T hB hX'.2.2.2.1 hX'.2.2.2.2 hk
    refine Or.inl ?_
    have start : f_X9_loses_l45 S I' R h p q (ls_V vf sv cv h p q k) (nI k) = if nI (sv k 3) = p then (if nI (sv k 2) = q then (if h < nI (ps sv cv k 0) then some (.inl (ls_V vf sv cv h p q k, (nI k + 1), I')) else rk_b2 (f_X9_owedFor S I' R (os k) h) fun x2 I1 => some (.inl ((ls_V vf sv cv h p q k + (rk_lmax 0 x2)), (nI k + 1), I1))) else some (.inl (ls_V vf sv cv h p q k, (nI k + 1), I'))) else some (.inl (ls_V vf sv cv h p q k, (nI k + 1), I')) := by
      unfold f_X9_loses_l45
      rw [e3, if_neg (nI_ge hk (by omega)), pr_rdR (by omega) (by omega), pr_sb, q1, pr_dr q2, pr_sb, q5, q6, hT, pr_sb]
    by_cases g1 : nI (sv k 3) = p
    · by_cases g2 : nI (sv k 2) = q
      · by_cases g3 : h < nI (ps sv cv k 0)
        · refine ⟨(ls_V vf sv cv h p q (k + 1), nI (k + 1), I'), ?_, I', rfl, hI⟩
          show f_X9_loses_l45 S I' R h p q (ls_V vf sv cv h p q k) (nI k) = _
          rw [start, if_pos g1, if_pos g2, if_pos g3, nI_1, ls_s, if_pos g1, if_pos g2, if_pos g3]
        · obtain ⟨I1, e1, r1⟩ := (hv k hk).1 I' hI
          refine ⟨(ls_V vf sv cv h p q (k + 1), nI (k + 1), I1), ?_, I1, rfl, r1⟩
          show f_X9_loses_l45 S I' R h p q (ls_V vf sv cv h p q k) (nI k) = _
          rw [start, if_pos g1, if_pos g2, if_neg g3, e1, cq_b2, nI_1, ls_s, if_pos g1, if_pos g2, if_neg g3]
      · refine ⟨(ls_V vf sv cv h p q (k + 1), nI (k + 1), I'), ?_, I', rfl, hI⟩
        show f_X9_loses_l45 S I' R h p q (ls_V vf sv cv h p q k) (nI k) = _
        rw [start, if_pos g1, if_neg g2, nI_1, ls_s, if_pos g1, if_neg g2]
    · refine ⟨(ls_V vf sv cv h p q (k + 1), nI (k + 1), I'), ?_, I', rfl, hI⟩
      show f_X9_loses_l45 S I' R h p q (ls_V vf sv cv h p q k) (nI k) = _
      rw [start, if_neg g1, nI_1, ls_s, if_neg g1]) (fun a hP => by
    obtain ⟨I', rfl, hI⟩ := hP
    refine ⟨(ls_V vf sv cv h p q s, nI s, I'), ?_, I', rfl, hI⟩
    show f_X9_loses_l45 S I' R h p q (ls_V vf sv cv h p q s) (nI s) = _
    unfold f_X9_loses_l45
    rw [hI 0 3 (by unfold kp; omega), hX.2.2.1, if_pos (nI_le (Nat.le_refl _) (by omega))])
  obtain ⟨b, e, I1, rfl, r⟩ := hw
  exact ⟨I1, e, r⟩
theorem ls_max (x y : Int64) {α : Type} {f : Int64 → α} : (if (lg_cmp x 0) ≤ 0 then f (y + 0) else f (y + x)) = f (y + rk_lmax 0 x) := by
  have z : (0 : Int64).toInt = 0 := by decide
  have e : lg_cmp x 0 ≤ 0 ↔ ¬ 0 < lg_cmp x 0 := by rw [fa_le, fa_lt]; omega
  unfold rk_lmax
  by_cases h : 0 < lg_cmp x 0
  · rw [if_neg (fun t => (e.mp t) h)]
    rw [lg_cmp_gt, fa_lt64, z] at h
    rw [if_neg (by rw [fa_lt64, z]; omega)]
  · rw [if_pos (e.mpr h)]
    rw [lg_cmp_gt, fa_lt64, z] at h
    by_cases h2 : x < 0
    · rw [if_pos h2]
    · rw [if_neg h2]
      rw [fa_lt64, z] at h2
      rw [show x = 0 by rw [fa_eq64, z]; omega]
theorem ls_m (hB : pv_B c s sv cv) (hY : pv_Y c s sv cv I) (hv : ow_V s os S I R h vf) {u p q : Int32} (hp : u / 10 = p) (hq : rk_md u 10 = q) (I0 : rk_I) (J0 : rk_J) (hI0 : kI I I0) : ∃ I1 J1, rk_while (fun a9 : Int64 × Int32 × rk_I × rk_J => f_X10_loses_l39 a9.2.2.1 a9.2.2.2 u h a9.1 a9.2.1) (0, 0, I0, J0) = some (ls_V vf sv cv h p q s, nI s, I1, J1) ∧ kI I I1 := by
  have hs24 := hB.2.1
  have hw := pr_for0 (f := fun a9 : Int64 × Int32 × rk_I × rk_J => f_X10_loses_l39 a9.2.2.1 a9.2.2.2 u h a9.1 a9.2.1) (fun k a => ∃ I' J', a = (ls_V vf sv cv h p q k, nI k, I', J') ∧ kI I I') s (fun b => ∃ I' J', b = (ls_V vf sv cv h p q s, nI s, I', J') ∧ kI I I') (0, 0, I0, J0) ⟨I0, J0, rfl, hI0⟩ (fun k a hk hP => by
    obtain ⟨I', J', rfl, hI⟩ := hP
    have hY' := kY hY hI
    obtain ⟨y0, y1, y2, y3, -⟩ := hY'.2.2.1 k hk
    have e20 : I' 31 20 = nI s := hY'.2.1
    have hT : f_X10_passes I' (nI k) 0 = some (nI (ps sv cv k 0)) := pm_P hB hY'.2.2.1 hY'.2.2.2 hk (w := 0) (by omega)
    refine Or.inl ?_
    obtain ⟨I1, J1, e1, r1⟩ := (hv k hk).2 I' J' hI
    have start : f_X10_loses_l39 I' J' u h (ls_V vf sv cv h p q k) (nI k) = if nI (sv k 3) = p then (if nI (sv k 2) = q then (if nI (ps sv cv k 0) ≤ h then some (.inl (ls_V vf sv cv h p q k + rk_lmax 0 (vf k), nI k + 1, I1, J1)) else some (.inl (ls_V vf sv cv h p q k, (nI k + 1), I', J'))) else some (.inl (ls_V vf sv cv h p q k, (nI k + 1), I', J'))) else some (.inl (ls_V vf sv cv h p q k, (nI k + 1), I', J')) := by
      unfold f_X10_loses_l39
      rw [e20, if_neg (nI_ge hk (by omega)), pr_rd (by omega) (by omega), pr_sb, pr_rd (by omega) (by omega), pr_sb, y2, y3, hp, hq, hT, pr_sb, e1, cq_b3, ls_max (f := fun z => some (Sum.inl (z, nI k + 1, I1, J1)))]
    by_cases g1 : nI (sv k 3) = p
    · by_cases g2 : nI (sv k 2) = q
      · by_cases g3 : h < nI (ps sv cv k 0)
        · refine ⟨(ls_V vf sv cv h p q (k + 1), nI (k + 1), I', J'), ?_, I', J', rfl, hI⟩
          show f_X10_loses_l39 I' J' u h (ls_V vf sv cv h p q k) (nI k) = _
          rw [start, if_pos g1, if_pos g2, if_neg (fa_of_lt g3).2.1, nI_1, ls_s, if_pos g1, if_pos g2, if_pos g3]
        · refine ⟨(ls_V vf sv cv h p q (k + 1), nI (k + 1), I1, J1), ?_, I1, J1, rfl, r1⟩
          show f_X10_loses_l39 I' J' u h (ls_V vf sv cv h p q k) (nI k) = _
          rw [start, if_pos g1, if_pos g2, if_pos (fa_of_nlt g3), nI_1, ls_s, if_pos g1, if_pos g2, if_neg g3]
      · refine ⟨(ls_V vf sv cv h p q (k + 1), nI (k + 1), I', J'), ?_, I', J', rfl, hI⟩
        show f_X10_loses_l39 I' J' u h (ls_V vf sv cv h p q k) (nI k) = _
        rw [start, if_pos g1, if_neg g2, nI_1, ls_s, if_pos g1, if_neg g2]
    · refine ⟨(ls_V vf sv cv h p q (k + 1), nI (k + 1), I', J'), ?_, I', J', rfl, hI⟩
      show f_X10_loses_l39 I' J' u h (ls_V vf sv cv h p q k) (nI k) = _
      rw [start, if_neg g1, nI_1, ls_s, if_neg g1]) (fun a hP => by
    obtain ⟨I', J', rfl, hI⟩ := hP
    refine ⟨(ls_V vf sv cv h p q s, nI s, I', J'), ?_, I', J', rfl, hI⟩
    show f_X10_loses_l39 I' J' u h (ls_V vf sv cv h p q s) (nI s) = _
    unfold f_X10_loses_l39
    rw [hI 31 20 (by unfold kp; omega), hY.2.1, if_pos (nI_le (Nat.le_refl _) (by omega))])
  obtain ⟨b, e, I1, J1, rfl, r⟩ := hw
  exact ⟨I1, J1, e, r⟩
end LS
theorem ls_in (a : Int32) : (∃ x, x < 10 ∧ ¬ a < 0 ∧ a / 10 = nI x ∧ f_X9_isHand (a / 10) = some 1 ∧ f_X10_in a.toInt64 0 99 = some 1) ∨ ((a < 0 ∨ (¬ a < 0 ∧ f_X9_isHand (a / 10) = some 0)) ∧ f_X10_in a.toInt64 0 99 = some 0) := by
  rcases pr_inN (x := a) (h := 99) (n := 100) (by omega) (by decide) with ⟨j, h1, rfl, h3⟩ | ⟨h1, h3⟩
  · left
    have hd : nI j / 10 = nI (j / 10) := pk_div (d := 10) (by omega) (by omega) (by omega)
    refine ⟨j / 10, by omega, nI_pos (by omega), hd, ?_, h3⟩
    rw [hd]
    exact pr_hi (n := 10) (by decide) (by omega) (by omega)
  · right
    refine ⟨?_, h3⟩
    by_cases h0 : a < 0
    · exact Or.inl h0
    · obtain ⟨j, hj, rfl⟩ := nI_of h0
      have hd : nI j / 10 = nI (j / 10) := pk_div (d := 10) hj (by omega) (by omega)
      have hji : (nI j).toInt = (j : Int) := nI_toInt hj
      rw [hji] at h1
      refine Or.inr ⟨h0, ?_⟩
      rw [hd]
      refine pr_lo (n := 10) (by decide) (Or.inr ?_) rfl
      rw [nI_toInt (by omega)]
      omega
theorem ck_loses {n : Nat} {S : rk_Sh} {I : rk_I} {R : rk_R} (h : iv n S I R) (J : rk_J) (a b : Int32) : ∃ v I1 I2 J2, f_X9_loses S I R a b = some (v, I1) ∧ f_X10_loses I1 J a b = some (v, I2, J2) ∧ iv n S I2 R := by
  have h' := h
  obtain ⟨c, s, t, r, oc, os, ot, sv, cv, h1, h2, h3, h4, h5, h6, h7, h8, h9, h10, h11⟩ := h
  have bad : f_X9_loses S I R a b = some (-4611686018427387904, I) → f_X10_loses I J a b = some (-4611686018427387904, I, J) → ∃ v I1 I2 J2, f_X9_loses S I R a b = some (v, I1) ∧ f_X10_loses I1 J a b = some (v, I2, J2) ∧ iv n S I2 R := fun P Q => ⟨_, I, I, J, P, Q, h'⟩
  rcases ls_in a with ⟨x, x1, x2, x3, x4, x5⟩ | ⟨x3, x4⟩
  · by_cases hm : a / 10 = rk_md a 10
    · refine bad ?_ ?_
      · unfold f_X9_loses
        rw [if_neg x2, x4, pr_sb, if_neg (by decide), if_pos hm]
      · unfold f_X10_loses
        rw [x5, pr_sb, if_neg (by decide), if_pos hm]
    · rcases pg_hour b with ⟨y, y1, rfl, y3, y4⟩ | ⟨-, y3, y4⟩
      · obtain ⟨vf, hv⟩ := ow_all h5 h6 h7 h8 (nI y)
        obtain ⟨I1, e1, r1⟩ := ls_c h5 h6 hv (a / 10) (rk_md a 10)
        obtain ⟨I2, J2, e2, r2⟩ := ls_m h5 h7 hv (u := a) rfl rfl I1 J r1
        refine ⟨ls_V vf sv cv (nI y) (a / 10) (rk_md a 10) s, I1, I2, J2, ?_, ?_, iv_k h' r2 (kR_r _)⟩
        · unfold f_X9_loses
          rw [if_neg x2, x4, pr_sb, if_neg (by decide), if_neg hm, y3, pr_sb, if_neg (by decide), e1]
          rfl
        · unfold f_X10_loses
          rw [x5, pr_sb, if_neg (by decide), if_neg hm, y4, pr_sb, if_neg (by decide), e2]
          rfl
      · refine bad ?_ ?_
        · unfold f_X9_loses
          rw [if_neg x2, x4, pr_sb, if_neg (by decide), if_neg hm, y3]
          rfl
        · unfold f_X10_loses
          rw [x5, pr_sb, if_neg (by decide), if_neg hm, y4]
          rfl
  · refine bad ?_ ?_
    · unfold f_X9_loses
      rcases x3 with g | ⟨g, g2⟩
      · rw [if_pos g]
      · rw [if_neg g, g2]
        rfl
    · unfold f_X10_loses
      rw [x4]
      rfl
