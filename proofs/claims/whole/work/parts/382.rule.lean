/-! A PART OF THE RULE, at a sale and an hour: both sides -/
theorem sK_kI {I I' : rk_I} (h : sK I I') : kI I I' := fun q i hk => h q i (fun e => by subst e; unfold kp at hk; omega) (fun e => by obtain ⟨e, -⟩ := e; subst e; unfold kp at hk; omega)
theorem rT_kI {I I' : rk_I} (h : rT I I') : kI I I' := fun q i hk => h q i (fun e => by obtain ⟨e, a, b⟩ := e; subst e; unfold kp at hk; omega)
theorem nV_k {I I' : rk_I} (h : kI I I') (k : Nat) (t : Int32) : nV I' k t = nV I k t := by
  have e : ∀ q, 32 ≤ q → q < 47 → I' q = I q := fun q a b => kI_at h q (fun i => by unfold kp; omega)
  funext x
  unfold nV
  rw [e 38 (by omega) (by omega), e 44 (by omega) (by omega), e 43 (by omega) (by omega), e 42 (by omega) (by omega), e 46 (by omega) (by omega)]
theorem rl_named {n c s : Nat} {oc os : Nat → Nat} {sv cv : pv_V} {S : rk_Sh} {I I' : rk_I} {R : rk_R} (hX : pv_X n c s oc os sv cv S I R) (hY : pv_Y c s sv cv I) {k : Nat} (hk : k < s) (hI : kI I I') (h : Int32) {y : Nat} (hy : y < 6) : f_X3_named I' (nI y) (os k) h = some (nV I k h y) := by
  have hos := (hX.1.2.1 k hk).1
  have g := hX.2.2.2.1 k hk
  obtain ⟨-, -, -, x0, x2, x3, x4, x5, x6, x7, x8⟩ := g
  obtain ⟨y0, y1, y2, y3, y4, y5, y6, y7, y8⟩ := hY.2.2.1 k hk
  have e := kI_big hI (by omega : 57 ≤ os k)
  unfold f_X3_named nV f_X5_due
  rw [e]
  rcases (by omega : y = 0 ∨ y = 1 ∨ y = 2 ∨ y = 3 ∨ y = 4 ∨ y = 5) with rfl | rfl | rfl | rfl | rfl | rfl
  · rw [if_pos (show nI 0 = 0 from rfl), if_pos rfl, x0, y0]
  · rw [if_neg (show ¬ nI 1 = 0 by decide), if_pos (show nI 1 = 1 from rfl), if_neg (by decide), if_pos rfl, x6, y6]
  · rw [if_neg (show ¬ nI 2 = 0 by decide), if_neg (show ¬ nI 2 = 1 by decide), if_pos (show nI 2 = 2 from rfl), if_neg (by decide), if_neg (by decide), if_pos rfl, x5, y5]
  · rw [if_neg (show ¬ nI 3 = 0 by decide), if_neg (show ¬ nI 3 = 1 by decide), if_neg (show ¬ nI 3 = 2 by decide), if_pos (show nI 3 = 3 from rfl), if_neg (by decide), if_neg (by decide), if_neg (by decide), if_pos rfl, x4, y4]
  · rw [if_neg (show ¬ nI 4 = 0 by decide), if_neg (show ¬ nI 4 = 1 by decide), if_neg (show ¬ nI 4 = 2 by decide), if_neg (show ¬ nI 4 = 3 by decide), if_pos (show nI 4 = 4 from rfl), if_neg (by decide), if_neg (by decide), if_neg (by decide), if_neg (by decide), if_pos rfl, x8, y8]
  · rw [if_neg (show ¬ nI 5 = 0 by decide), if_neg (show ¬ nI 5 = 1 by decide), if_neg (show ¬ nI 5 = 2 by decide), if_neg (show ¬ nI 5 = 3 by decide), if_neg (show ¬ nI 5 = 4 by decide), if_neg (by decide), if_neg (by decide), if_neg (by decide), if_neg (by decide), if_neg (by decide), pr_sb, x5, x4, y5, y4]
theorem eV_p {nm : Nat → Int32} {c : List Nat} {v : Int32} (h : eV nm c v) : ev_p (ev nm c []) = v := by
  rw [h []]
  rfl
theorem rl_both {n c s t r : Nat} {oc os ot : Nat → Nat} {sv cv : pv_V} {S : rk_Sh} {I : rk_I} {R : rk_R} (hB : pv_B c s sv cv) (hX : pv_X n c s oc os sv cv S I R) (hY : pv_Y c s sv cv I) (hTt : pv_T n t r ot S I R) {k w : Nat} (hk : k < s) (hw : w < 3) (h : Int32) : ∃ v, (∀ I', kI I I' → ∃ I1, f_X9_ruled S I' R (nI w) (os k) h = some (v, I1) ∧ kI I I1) ∧ ∀ I' J, kI I I' → ∃ I2 J2, f_X10_read I' J (I' 31 4) (nI k) h (nI w) = some (v, I2, J2) ∧ kI I I2 := by
  have hs24 := hB.2.1
  obtain ⟨t1, t2, t3, t4, t5, t6, t7, t8⟩ := hTt
  obtain ⟨g1, g2, g3, g4, g5, g6, N, sz, g7, g8, bs, tk, pl, st, tc, c0, c1, c2, k1, k2, k3, k4, k5, k6, k7, k8, k9, k10⟩ := t8 r t5
  refine ⟨ev_p (ev (nV I k h) (pc (c0, c1, c2) w) []), fun I' hI => ?_, fun I' J hI => ?_⟩
  · have e1 : I' (ot r + 1) = I (ot r + 1) := kI_at hI _ (fun i => by unfold kp; omega)
    have e2 : I' (ot r + 2) = I (ot r + 2) := kI_at hI _ (fun i => by unfold kp; omega)
    obtain ⟨I1, e, r1⟩ := vl_value (nm := nV I k h) (q := os k) (h := h) (I := I') g4 g5 g7 g6 (by omega) k3 k4 k5 k6 (fun i hi => by rw [e1]; exact k7 i hi) (by rw [e2]; exact k8) (by rw [e2]; exact k9) (by rw [e2]; exact k10) (fun I'' hI' y hy => rl_named hX hY hk (kI_t hI (sK_kI hI')) h hy) hw
    refine ⟨I1, ?_, kI_t hI (sK_kI r1)⟩
    unfold f_X9_ruled
    rw [hI 0 6 (by unfold kp; omega), t6, pr_rdR (by omega) (by omega), pr_sb, g1, pr_dr g3, pr_sb, e]
    rfl
  · have e3 : I' 33 = I 33 := kI_at hI _ (fun i => by unfold kp; omega)
    have e4 : I' 32 = I 32 := kI_at hI _ (fun i => by unfold kp; omega)
    obtain ⟨v, I2, J2, e, r2, r3, hD⟩ := rd_read (J := J) (I := I') k3 (by have := cb_tc k3; omega) (t := r) (k := k) (by omega) (by omega) k1 (by rw [e3]; exact g8) (fun i hi => by rw [e4]; exact k2 i hi) h (nI w)
    refine ⟨I2, J2, ?_, kI_t hI (rT_kI r2)⟩
    rw [hI 31 4 (by unfold kp; omega), t7, e]
    unfold rD at hD
    rw [k4, nV_k hI] at hD
    simp only [] at hD
    obtain ⟨-, d0, d1, d2⟩ := hD
    rcases (by omega : w = 0 ∨ w = 1 ∨ w = 2) with rfl | rfl | rfl
    · rw [show pc (c0, c1, c2) 0 = c0 from rfl, eV_p (d0 rfl)]
    · rw [show pc (c0, c1, c2) 1 = c1 from rfl, eV_p (d1 rfl)]
    · rw [show pc (c0, c1, c2) 2 = c2 from rfl, eV_p (d2 (by decide) (by decide))]
