/-! THE CLASS'S LEAST -/
def wl_A (sv : pv_V) (m g i z : Nat) : Prop := ∃ f, f < i ∧ sv f 1 = g ∧ fo_O sv m f 12 (sv f 3) (2 ^ f) (2 ^ sv f 3) z
theorem wl_s {sv : pv_V} {m g i z : Nat} : wl_A sv m g (i + 1) z ↔ wl_A sv m g i z ∨ (sv i 1 = g ∧ fo_O sv m i 12 (sv i 3) (2 ^ i) (2 ^ sv i 3) z) := by
  constructor
  · rintro ⟨f, h1, h2, h3⟩
    by_cases e : f = i
    · subst e
      exact Or.inr ⟨h2, h3⟩
    · exact Or.inl ⟨f, by omega, h2, h3⟩
  · rintro (⟨f, h1, h2, h3⟩ | ⟨h2, h3⟩)
    · exact ⟨f, by omega, h2, h3⟩
    · exact ⟨i, by omega, h2, h3⟩
section WL
variable {n c s : Nat} {oc os : Nat → Nat} {sv cv : pv_V} {S : rk_Sh} {I : rk_I} {R : rk_R}
theorem wl_loop (hB : pv_B c s sv cv) {m : Nat} (hm : m ≤ s) (hm12 : m ≤ 12) (hR : R 16 1 = some 2) (hX : pv_X n c s oc os sv cv S I R) (h16 : I 16 2 = nI m) (h3 : I 16 3 = -1) {g : Nat} (hg : g < c) : ∃ I', rk_while (fun a9 : Int32 × rk_I => f_X4_least_16_2_x_l23 S a9.2 R (oc g) a9.1) (0, I) = some (nI m, I') ∧ bs_B (wl_A sv m g m) (I' 16 3) ∧ ∀ q i, ¬ (q = 16 ∧ i = 3) → I' q i = I q i := by
  have hs := hB.2.1
  have hw := pr_for0 (f := fun a9 : Int32 × rk_I => f_X4_least_16_2_x_l23 S a9.2 R (oc g) a9.1) (fun i a => ∃ I', a = (nI i, I') ∧ bs_B (wl_A sv m g i) (I' 16 3) ∧ ∀ q j, ¬ (q = 16 ∧ j = 3) → I' q j = I q j) m (fun b => ∃ I', b = (nI m, I') ∧ bs_B (wl_A sv m g m) (I' 16 3) ∧ ∀ q j, ¬ (q = 16 ∧ j = 3) → I' q j = I q j) (0, I) ⟨I, rfl, Or.inl ⟨h3, fun z hz => by obtain ⟨f, hf, -⟩ := hz; omega⟩, fun _ _ _ => rfl⟩ (fun i a hi hA => by
    obtain ⟨I', rfl, hbs, hfr⟩ := hA
    have hX' := kX hX (wk_fr hfr) (kR_r R)
    have e16 : I' 16 2 = nI m := (hfr 16 2 (by omega)).trans h16
    obtain ⟨i0, i1, i2, -, -, i3, -⟩ := hX'.2.2.2.1 i (by omega)
    have bi := hB.2.2.1 i (by omega)
    have ci := (hX'.2.2.2.2 (sv i 1) bi.2.1).2.1
    refine Or.inl ?_
    have start : f_X4_least_16_2_x_l23 S I' R (oc g) (nI i) = if oc (sv i 1) = oc g then (f_gW 12 0 (nI i) (nI (sv i 3)) (nI (2 ^ i)) (nI (2 ^ sv i 3)) S I' R).bind fun I1 => some (.inl (nI (i + 1), I1)) else some (.inl (nI (i + 1), I')) := by
      unfold f_X4_least_16_2_x_l23
      rw [e16, if_neg (nI_ge hi (by omega)), pr_rdR (by omega) (by omega), pr_sb, i0, pr_dr i1, pr_sb, pr_sb, i2, pr_dr ci, pr_sb, i3, rb_1 (by omega), rb_1 (by omega), nI_1]
    by_cases hc : sv i 1 = g
    · obtain ⟨I2, e2, b2, r2⟩ := wk_walk hB hm hm12 hR hi 12 (sv i 3) (2 ^ i) (2 ^ sv i 3) I' _ (by omega) bi.2.2.2.1 (Nat.pow_lt_pow_right (n := 12) (by decide) (by omega)) (Nat.pow_lt_pow_right (n := 10) (by decide) bi.2.2.2.1) hX' e16 hbs
      refine ⟨(nI (i + 1), I2), ?_, I2, rfl, bs_cong (fun z => ?_) b2, fun q j hq => (r2 q j hq).trans (hfr q j hq)⟩
      · show f_X4_least_16_2_x_l23 S I' R (oc g) (nI i) = _
        rw [start, if_pos (by rw [hc]), e2, pr_sb]
      · rw [wl_s]
        exact ⟨fun h => h.imp id (fun w => ⟨hc, w⟩), fun h => h.imp id (fun w => w.2)⟩
    · refine ⟨(nI (i + 1), I'), ?_, I', rfl, bs_cong (fun z => ?_) hbs, hfr⟩
      · show f_X4_least_16_2_x_l23 S I' R (oc g) (nI i) = _
        rw [start, if_neg (fun z => hc (hX.1.2.2.1 _ _ bi.2.1 hg z))]
      · rw [wl_s]
        exact ⟨fun h => Or.inl h, fun h => h.elim id (fun w => absurd w.1 hc)⟩) (fun a hA => by
    obtain ⟨I', rfl, hbs, hfr⟩ := hA
    refine ⟨(nI m, I'), ?_, I', rfl, hbs, hfr⟩
    show f_X4_least_16_2_x_l23 S I' R (oc g) (nI m) = _
    unfold f_X4_least_16_2_x_l23
    rw [hfr 16 2 (by omega), h16, if_pos (nI_le (Nat.le_refl _) (by omega))])
  obtain ⟨b, e, I', rfl, hbs, hfr⟩ := hw
  exact ⟨I', e, hbs, hfr⟩
def wl_m (s : Nat) : Nat := if s ≤ 12 then s else 12
theorem wl_mm {s : Nat} : wl_m s ≤ s ∧ wl_m s ≤ 12 ∧ (wl_m s = s ∨ wl_m s = 12) := by
  unfold wl_m
  split <;> omega
theorem wl_least (hB : pv_B c s sv cv) (hX : pv_X n c s oc os sv cv S I R) {g : Nat} (hg : g < c) : ∃ v I' R', f_X4_least_16_2_x S I R (nI s) (oc g) = some (v, I', R') ∧ bs_B (fo_A sv (wl_m s) g) v ∧ kI I I' ∧ kR R R' := by
  have hs := hB.2.1
  obtain ⟨m1, m2, m3⟩ := wl_mm (s := s)
  have hmin : rk_min (nI s) 12 = nI (wl_m s) := by
    unfold rk_min wl_m
    by_cases h : s ≤ 12
    · rw [if_pos h, if_neg (show ¬ (12 : Int32) < nI s from nI_nlt (a := 12) h (by omega))]
    · rw [if_neg h, if_pos (show (12 : Int32) < nI s from nI_lt (a := 12) (by omega) (by omega))]
      rfl
  have hI : kI I (rk_ui (rk_ui I 16 2 (nI (wl_m s))) 16 3 (-1)) := fun q i hq => by
    have : q ≠ 16 := fun e => by subst e; unfold kp at hq; omega
    rw [ui_o this, ui_o this]
  have hRR : kR R (rk_ur R 16 1 (some 2)) := fun q i h1 h2 => by
    by_cases e : q = 16
    · subst e
      rw [ur_n (fun z => h2 ⟨rfl, z⟩)]
    · rw [ur_o e]
  obtain ⟨I', e, b, fr⟩ := wl_loop hB m1 m2 ur_s (kX hX hI hRR) (by rw [ui_n (by omega), ui_s]) ui_s hg
  refine ⟨I' 16 3, I', _, ?_, b, kI_t hI (wk_fr fr), hRR⟩
  unfold f_X4_least_16_2_x
  rw [pr_sb, hmin, pr_sb, pr_sb, e, cq_b2]
end WL
