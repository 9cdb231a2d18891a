/-! THE REFERENCE READS A TEXT -/
def rT (I I' : rk_I) : Prop := ∀ q i, ¬ (q = 31 ∧ 23 ≤ i ∧ i ≤ 33) → I' q i = I q i
theorem rT_t {I I' I'' : rk_I} (h : rT I I') (h2 : rT I' I'') : rT I I'' := fun q i a => (h2 q i a).trans (h q i a)
theorem rT_R {I I' : rk_I} (h : rR I I') : rT I I' := fun q i a => h q i (by omega)
theorem rT_u {I : rk_I} {i : Nat} {x : Int32} (h : 23 ≤ i ∧ i ≤ 33) : rT I (rk_ui I 31 i x) := fun q j a => by
  by_cases hq : q = 31
  · subst hq
    rw [ui_n (fun e => a ⟨rfl, by omega, by omega⟩)]
  · rw [ui_o hq]
/-- the names' values at sale k, at the hour h -/
def nV (I : rk_I) (k : Nat) (h : Int32) (x : Nat) : Int32 := if x = 0 then I 38 k else if x = 1 then h - I 44 k else if x = 2 then I 43 k else if x = 3 then I 42 k else if x = 4 then I 46 k else I 43 k * I 42 k
def rD (tk pl : Nat → Nat) (nm : Nat → Int32) (w v : Int32) (I : rk_I) : Prop := match gp_t tk with
  | .inl f => I 31 30 = 1 ∧ I 31 31 = nI (pl f)
  | .inr c => I 31 30 = 0 ∧ (w = 0 → eV nm c.1 v) ∧ (w = 1 → eV nm c.2.1 v) ∧ (¬ w = 0 → ¬ w = 1 → eV nm c.2.2 v)
section RD
variable {bs : Nat → Nat} {sz : Nat} {tk pl st : Nat → Nat} {tc : Nat}
theorem rd_102F {f : Nat} {I : rk_I} {J : rk_J} {w x y z : Int32} (h : rF pl f I) : ∃ v, f_X10_read_j102 I J w x y z = some (v, I, J) := by
  unfold f_X10_read_j102
  rw [if_neg (by rw [h.1]; decide)]
  by_cases h0 : w = 0
  · rw [if_pos h0]; exact ⟨_, rfl⟩
  · rw [if_neg h0]
    by_cases h1 : w = 1
    · rw [if_pos h1]; exact ⟨_, rfl⟩
    · rw [if_neg h1]; exact ⟨_, rfl⟩
theorem rd_read (hT : tz_T bs sz tk pl st tc) (htc : tc ≤ 160) {t k : Nat} (ht : t < 6) (hk : k < 24) (hsz : sz ≤ 160) {I : rk_I} {J : rk_J} (h33 : I 33 t = nI sz) (hb : ∀ i, i < sz → bs i < 256 ∧ I 32 (160 * t + i) = nI (bs i)) (h w : Int32) : ∃ v I' J', f_X10_read I J (nI t) (nI k) h w = some (v, I', J') ∧ rT I I' ∧ mJ J J' ∧ rD tk pl (nV I k h) w v I' := by
  let I7 : rk_I := rk_ui (rk_ui (rk_ui (rk_ui (rk_ui (rk_ui (rk_ui I 31 32 (nI k)) 31 33 (h - I 44 k)) 31 23 (nI (160 * t))) 31 24 (nI sz)) 31 28 0) 31 29 0) 31 30 0
  have hr7 : rT I I7 := rT_t (rT_u (by omega)) (rT_t (rT_u (by omega)) (rT_t (rT_u (by omega)) (rT_t (rT_u (by omega)) (rT_t (rT_u (by omega)) (rT_t (rT_u (by omega)) (rT_u (by omega)))))))
  have c32 : I7 31 32 = nI k := by simp only [I7]; rw [ui_n (by omega), ui_n (by omega), ui_n (by omega), ui_n (by omega), ui_n (by omega), ui_n (by omega), ui_s]
  have c33 : I7 31 33 = h - I 44 k := by simp only [I7]; rw [ui_n (by omega), ui_n (by omega), ui_n (by omega), ui_n (by omega), ui_n (by omega), ui_s]
  have c23 : I7 31 23 = nI (160 * t) := by simp only [I7]; rw [ui_n (by omega), ui_n (by omega), ui_n (by omega), ui_n (by omega), ui_s]
  have c24 : I7 31 24 = nI sz := by simp only [I7]; rw [ui_n (by omega), ui_n (by omega), ui_n (by omega), ui_s]
  have c28 : I7 31 28 = nI 0 := by simp only [I7]; rw [ui_n (by omega), ui_n (by omega), ui_s]; rfl
  have c29 : I7 31 29 = nI 0 := by simp only [I7]; rw [ui_n (by omega), ui_s]; rfl
  have c30 : I7 31 30 = 0 := ui_s
  have hB : mB bs sz (160 * t) I7 := ⟨hsz, by omega, c23, c24, fun i hi => by rw [hr7 32 _ (by omega)]; exact hb i hi⟩
  obtain ⟨I8, J1, e8, g1, g2, g3⟩ := mn_next (J := J) hT hB (j := 0) (by omega) (by rw [c28, hT.1])
  have hS8 : rS bs sz (160 * t) tk pl st tc (nV I k h) 0 0 I8 J1 := by
    refine ⟨mB_R hB g2, by omega, g1, by rw [g2 31 30 (by omega)]; exact c30, by rw [g2 31 29 (by omega)]; exact c29, k, hk, by rw [g2 31 32 (by omega)]; exact c32, ?_⟩
    rw [g2 38 k (by omega), g2 31 33 (by omega), g2 43 k (by omega), g2 42 k (by omega), g2 46 k (by omega), c33, hr7 38 k (by omega), hr7 43 k (by omega), hr7 42 k (by omega), hr7 46 k (by omega)]
    exact ⟨rfl, rfl, rfl, rfl, rfl, rfl⟩
  have hr8 : rT I I8 := rT_t hr7 (rT_R (rR_m g2))
  have head : f_X10_read I J (nI t) (nI k) h w = rk_b3 (f_X10_part I8 J1 237470) fun x3 I9 J2 => if (I9 31 30) = 0 then (rk_b3 (f_X10_part I9 J2 2774) fun x4 I10 J3 => f_X10_read_j82 I10 J3 w x3 x4) else f_X10_read_j82 I9 J2 w x3 0 := by
    unfold f_X10_read
    rw [pr_sb, pr_rd (by omega) (by omega), pr_sb, pr_sb, show (160 : Int32) * nI t = nI (160 * t) by rw [show (160 : Int32) = nI 160 from rfl, pk_mul], pr_sb, pr_rd (by omega) (by omega), pr_sb, pr_sb, pr_sb, pr_sb, pr_sb]
    rw [ui_o (by omega : 44 ≠ 31), ui_o (by omega : 33 ≠ 31), ui_o (by omega : 33 ≠ 31), ui_o (by omega : 33 ≠ 31), h33]
    show rk_b2 (f_X10_next I7 J) _ = _
    rw [e8]
    rfl
  rw [head]
  unfold rD gp_t
  have p0 := rp_part hT htc (j := 0) (x := 237470) (by omega) (by decide) hS8
  cases hg0 : gp_p tk 0 0 with
  | inl f =>
    rw [hg0] at p0
    obtain ⟨v, I9, J2, e, k1, k2, k3⟩ := p0
    rw [e, cq_b3, if_neg (by rw [k1.1]; decide)]
    unfold f_X10_read_j82
    rw [if_neg (by rw [k1.1]; decide)]
    obtain ⟨v', e'⟩ := rd_102F (J := J2) (w := w) (x := v) (y := 0) (z := 0) k1
    exact ⟨v', I9, J2, e', rT_t hr8 (rT_R k2), mJ_t g3 k3, k1.1, k1.2⟩
  | inr q0 =>
    rw [hg0] at p0
    obtain ⟨v0, I9, J2, e, k1, k2, k3, k4, k5⟩ := p0
    rw [e, cq_b3, if_pos k1.2.2.2.1]
    have p1 := rp_part hT htc (j := 1) (x := 2774) (by omega) (by decide) k1
    simp only []
    cases hg1 : gp_p tk 1 q0.1 with
    | inl f =>
      rw [hg1] at p1
      obtain ⟨v, I10, J3, e, l1, l2, l3⟩ := p1
      rw [e, cq_b3]
      unfold f_X10_read_j82
      rw [if_neg (by rw [l1.1]; decide)]
      obtain ⟨v', e'⟩ := rd_102F (J := J3) (w := w) (x := v0) (y := v) (z := 0) l1
      exact ⟨v', I10, J3, e', rT_t hr8 (rT_t (rT_R k2) (rT_R l2)), mJ_t g3 (mJ_t k3 l3), l1.1, l1.2⟩
    | inr q1 =>
      rw [hg1] at p1
      obtain ⟨v1, I10, J3, e, l1, l2, l3, l4, l5⟩ := p1
      rw [e, cq_b3]
      unfold f_X10_read_j82
      rw [if_pos l1.2.2.2.1]
      have p2 := rp_part hT htc (j := 2) (x := 388978) (by omega) (by decide) l1
      simp only []
      cases hg2 : gp_p tk 2 q1.1 with
      | inl f =>
        rw [hg2] at p2
        obtain ⟨v, I11, J4, e, m1, m2, m3⟩ := p2
        rw [e, cq_b3]
        obtain ⟨v', e'⟩ := rd_102F (J := J4) (w := w) (x := v0) (y := v1) (z := v) m1
        exact ⟨v', I11, J4, e', rT_t hr8 (rT_t (rT_R k2) (rT_t (rT_R l2) (rT_R m2))), mJ_t g3 (mJ_t k3 (mJ_t l3 m3)), m1.1, m1.2⟩
      | inr q2 =>
        rw [hg2] at p2
        obtain ⟨v2, I11, J4, e, m1, m2, m3, m4, m5⟩ := p2
        rw [e, cq_b3]
        simp only []
        have hr11 : rT I I11 := rT_t hr8 (rT_t (rT_R k2) (rT_t (rT_R l2) (rT_R m2)))
        have hJ := mJ_t g3 (mJ_t k3 (mJ_t l3 m3))
        have hK := m1.2.2.1.2.2
        unfold f_X10_read_j102
        rw [if_pos m1.2.2.2.1]
        by_cases h20 : tk q2.1 = 20
        · have hk0 : I11 31 25 = 0 := by
            rcases hK with ⟨x, y, z⟩ | ⟨x, y⟩ | ⟨x, y⟩ | ⟨x, x2, y, z⟩ | ⟨x, y, z⟩
            · omega
            · exact y
            · omega
            · omega
            · unfold tz_si at x; omega
          rw [if_pos hk0, if_pos h20]
          by_cases h0 : w = 0
          · rw [if_pos h0]
            exact ⟨v0, I11, J4, rfl, hr11, hJ, m1.2.2.2.1, fun _ => k4, fun z => absurd (h0.symm.trans z) (by decide), fun z => absurd h0 z⟩
          · rw [if_neg h0]
            by_cases h1 : w = 1
            · rw [if_pos h1]
              exact ⟨v1, I11, J4, rfl, hr11, hJ, m1.2.2.2.1, fun z => absurd z h0, fun _ => l4, fun _ z => absurd h1 z⟩
            · rw [if_neg h1]
              exact ⟨v2, I11, J4, rfl, hr11, hJ, m1.2.2.2.1, fun z => absurd z h0, fun z => absurd z h1, fun _ _ => m4⟩
        · have hk0 : ¬ I11 31 25 = 0 := by
            rcases hK with ⟨x, y, z⟩ | ⟨x, y⟩ | ⟨x, y⟩ | ⟨x, x2, y, z⟩ | ⟨x, y, z⟩
            · rw [y]; decide
            · exact absurd x h20
            · rcases y with y | ⟨y, -⟩ <;> rw [y] <;> decide
            · rw [y]; decide
            · rw [y]; decide
          rw [if_neg hk0, if_neg h20]
          obtain ⟨I12, e2, n1, n2⟩ := rs_fail m1
          rw [e2, pr_sb]
          have hr12 := rT_t hr11 (rT_R n2)
          by_cases h0 : w = 0
          · rw [if_pos h0]
            exact ⟨v0, I12, J4, rfl, hr12, hJ, n1.1, n1.2⟩
          · rw [if_neg h0]
            by_cases h1 : w = 1
            · rw [if_pos h1]
              exact ⟨v1, I12, J4, rfl, hr12, hJ, n1.1, n1.2⟩
            · rw [if_neg h1]
              exact ⟨v2, I12, J4, rfl, hr12, hJ, n1.1, n1.2⟩
end RD
