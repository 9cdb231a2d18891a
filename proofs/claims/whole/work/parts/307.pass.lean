/-! WHEN THING AND LOSS PASS -/
def ps_lt (e h : Nat) : Nat := if e = 0 then 1000 else max (e - 1) h
def ps_T (sv cv : pv_V) (k kd : Nat) : Nat := if kd = 1 then ps_lt (cv (sv k 1) 2) (sv k 6) else if kd = 2 then ps_lt (cv (sv k 1) 3) (sv k 6) else if kd = 3 then ps_lt (sv k 7) (sv k 6) else if kd = 4 then ps_lt (cv (sv k 1) 4) (ps_lt (cv (sv k 1) 3) (sv k 6)) else if kd = 5 then ps_lt (sv k 7) (sv k 6) else sv k 6
def ps_L (sv cv : pv_V) (k kd : Nat) : Nat := if kd = 1 then ps_T sv cv k 1 else if kd = 2 then ps_T sv cv k 2 else if kd = 3 then ps_T sv cv k 1 else if kd = 4 then ps_T sv cv k 2 else if kd = 5 then (if ps_T sv cv k 1 = 1000 then 1000 else sv k 6 + (ps_T sv cv k 1 - sv k 6) / 2) else sv k 6
def ps (sv cv : pv_V) (k what : Nat) : Nat := if what = 0 then ps_T sv cv k (sv k 0) else ps_L sv cv k (sv k 0)
theorem ps_ltB {e h : Nat} (he : e < 1001) (hh : h < 1001) : ps_lt e h < 1001 ∧ h ≤ max (ps_lt e h) h := by
  unfold ps_lt
  split <;> omega
theorem ps_ltH {e h : Nat} (hh : h < 1001) : h ≤ ps_lt e h := by
  unfold ps_lt
  split <;> omega
theorem ps_TB {c s : Nat} {sv cv : pv_V} (h : pv_B c s sv cv) {k : Nat} (hk : k < s) (kd : Nat) : ps_T sv cv k kd < 1001 := by
  have g := h.2.2.1 k hk
  obtain ⟨-, -, -, g4⟩ := h.2.2.2 (sv k 1) g.2.1
  have a0 := g4 0 (by omega)
  have a1 := g4 1 (by omega)
  have a2 := g4 2 (by omega)
  have e1 : ps_lt (cv (sv k 1) 2) (sv k 6) < 1001 := (ps_ltB a0 (by omega)).1
  have e2 : ps_lt (cv (sv k 1) 3) (sv k 6) < 1001 := (ps_ltB a1 (by omega)).1
  have e3 : ps_lt (sv k 7) (sv k 6) < 1001 := (ps_ltB (by omega) (by omega)).1
  have e4 : ps_lt (cv (sv k 1) 4) (ps_lt (cv (sv k 1) 3) (sv k 6)) < 1001 := (ps_ltB a2 e2).1
  unfold ps_T
  repeat' split
  all_goals omega
theorem ps_B {c s : Nat} {sv cv : pv_V} (h : pv_B c s sv cv) {k : Nat} (hk : k < s) (what : Nat) : ps sv cv k what < 1001 := by
  have g := h.2.2.1 k hk
  have e := fun kd => ps_TB h hk kd
  have e1 := e 1
  have e2 := e 2
  unfold ps ps_L
  repeat' split
  all_goals first | exact e _ | omega
theorem pr_max (a b : Nat) (ha : a < 2147483648) (hb : b < 2147483648) : rk_max (nI a) (nI b) = nI (max a b) := by
  unfold rk_max
  by_cases h : a < b
  · rw [if_pos (nI_lt h (by omega)), Nat.max_eq_right (by omega)]
  · rw [if_neg (nI_nlt (by omega) (by omega)), Nat.max_eq_left (by omega)]
theorem pc_later {e h : Nat} (he : e < 1001) (hh : h < 1001) : f_X5_laterOf (nI e - 1) (nI h) = some (nI (ps_lt e h)) := by
  unfold f_X5_laterOf ps_lt
  by_cases h0 : e = 0
  · rw [if_pos ((pr_M0 (by omega)).mpr h0), if_pos h0]
    rfl
  · rw [if_neg (fun z => h0 ((pr_M0 (by omega)).mp z)), if_neg h0]
    obtain ⟨e', rfl⟩ : ∃ e', e = e' + 1 := ⟨e - 1, by omega⟩
    rw [pr_Ms, pr_max _ _ (by omega) (by omega)]
    rfl
theorem pm_later {e h : Nat} (he : e < 1001) (hh : h < 1001) : f_X10_later (nI e - 1) (nI h) = some (nI (ps_lt e h)) := by
  unfold f_X10_later ps_lt
  by_cases h0 : e = 0
  · rw [if_pos ((pr_M0 (by omega)).mpr h0), if_pos h0]
    rfl
  · rw [if_neg (fun z => h0 ((pr_M0 (by omega)).mp z)), if_neg h0, if_neg (pr_n1 (by omega))]
    obtain ⟨e', rfl⟩ : ∃ e', e = e' + 1 := ⟨e - 1, by omega⟩
    rw [pr_Ms]
    by_cases h1 : e' ≤ h
    · rw [if_pos (nI_le h1 (by omega)), show max (e' + 1 - 1) h = h by omega]
    · rw [if_neg (nI_ge (by omega) (by omega)), show max (e' + 1 - 1) h = e' by omega]
theorem pr_half {e h : Nat} (h1 : h ≤ e) (h2 : e < 1001) : nI h + (nI e - nI h) / 2 = nI (h + (e - h) / 2) := by
  rw [pk_sub h1, show (2 : Int32) = nI 2 from rfl, pr_dv (by omega) (by omega) (by omega), nI_add]
theorem pr_e1000 {a : Nat} (h : a < 2147483648) : (nI a = 1000) ↔ a = 1000 := by
  rw [show (1000 : Int32) = nI 1000 from rfl, nI_eq (by omega) (by omega)]
section PS
variable {c s : Nat} {oc os : Nat → Nat} {sv cv : pv_V} {S : rk_Sh} {I : rk_I} {R : rk_R}
theorem pc_T (hB : pv_B c s sv cv) (x3 : pv_CS s oc os sv S I R) (x4 : pv_CC c oc cv S I R) {k : Nat} (hk : k < s) : f_X5_thingHour S I R (os k) = some (nI (ps_T sv cv k (sv k 0))) := by
  obtain ⟨b0, b1, b2, b3, b4, b5, b6, b7, b8, b9, b10⟩ := hB.2.2.1 k hk
  obtain ⟨-, g2, g3, g4, -, -, -, -, g9, g10, -⟩ := x3 k hk
  obtain ⟨-, d2, d3, -, d5, -, -, -, -, d10⟩ := x4 (sv k 1) b1
  obtain ⟨-, -, -, b11⟩ := hB.2.2.2 (sv k 1) b1
  have e0 := b11 0 (by omega)
  have e1 := b11 1 (by omega)
  have e2 := b11 2 (by omega)
  have r0 : rk_rdD S I (oc (sv k 1) + 1) 0 = some (nI (cv (sv k 1) 2) - 1) := by rw [show (0 : Int32) = nI 0 from rfl, pr_rdD d3 (by omega) (by omega), d10 0 (by omega)]
  have r1 : rk_rdD S I (oc (sv k 1) + 1) 1 = some (nI (cv (sv k 1) 3) - 1) := by rw [show rk_rdD S I (oc (sv k 1) + 1) 1 = rk_rdD S I (oc (sv k 1) + 1) (nI 1) from rfl, pr_rdD d3 (by omega) (by omega), d10 1 (by omega)]
  have r2 : rk_rdD S I (oc (sv k 1) + 1) 2 = some (nI (cv (sv k 1) 4) - 1) := by rw [show (2 : Int32) = nI 2 from rfl, pr_rdD d3 (by omega) (by omega), d10 2 (by omega)]
  have l1 := (ps_ltB e1 (by omega : sv k 6 < 1001)).1
  unfold f_X5_thingHour ps_T
  rw [g4, g9, g10, g3]
  rcases (by omega : sv k 0 = 0 ∨ sv k 0 = 1 ∨ sv k 0 = 2 ∨ sv k 0 = 3 ∨ sv k 0 = 4 ∨ sv k 0 = 5) with h | h | h | h | h | h
  · rw [h, if_neg (by decide), if_neg (by decide), if_neg (by decide), if_neg (by decide), if_neg (by decide)]
    simp
  · rw [h, if_pos (by decide), pr_sb, pr_dr d2, pr_sb, pr_sb, d5, pr_sb, r0, pr_sb, pc_later e0 (by omega)]
    simp
  · rw [h, if_neg (by decide), if_pos (by decide), pr_sb, pr_dr d2, pr_sb, pr_sb, d5, pr_sb, r1, pr_sb, pc_later e1 (by omega)]
    simp
  · rw [h, if_neg (by decide), if_neg (by decide), if_pos (by decide), pc_later (by omega) (by omega)]
    simp
  · rw [h, if_neg (by decide), if_neg (by decide), if_neg (by decide), if_pos (by decide), pr_sb, pr_dr d2, pr_sb, pr_sb, d5, pr_sb, r2, pr_sb, pr_sb, pr_dr d2, pr_sb, pr_sb, d5, pr_sb, r1, pr_sb, pc_later e1 (by omega), pr_sb, pc_later e2 l1]
    simp
  · rw [h, if_neg (by decide), if_neg (by decide), if_neg (by decide), if_neg (by decide), if_pos (by decide), pc_later (by omega) (by omega)]
    simp
theorem pc_L (hB : pv_B c s sv cv) (x3 : pv_CS s oc os sv S I R) (x4 : pv_CC c oc cv S I R) {k : Nat} (hk : k < s) : f_X5_lossHour S I R (os k) = some (nI (ps_L sv cv k (sv k 0))) := by
  obtain ⟨b0, b1, b2, b3, b4, b5, b6, b7, b8, b9, b10⟩ := hB.2.2.1 k hk
  obtain ⟨-, g2, g3, g4, -, -, -, -, g9, g10, -⟩ := x3 k hk
  obtain ⟨-, d2, d3, -, d5, -, -, -, -, d10⟩ := x4 (sv k 1) b1
  obtain ⟨-, -, -, b11⟩ := hB.2.2.2 (sv k 1) b1
  have e0 := b11 0 (by omega)
  have e1 := b11 1 (by omega)
  have r0 : rk_rdD S I (oc (sv k 1) + 1) 0 = some (nI (cv (sv k 1) 2) - 1) := by rw [show (0 : Int32) = nI 0 from rfl, pr_rdD d3 (by omega) (by omega), d10 0 (by omega)]
  have r1 : rk_rdD S I (oc (sv k 1) + 1) 1 = some (nI (cv (sv k 1) 3) - 1) := by rw [show rk_rdD S I (oc (sv k 1) + 1) 1 = rk_rdD S I (oc (sv k 1) + 1) (nI 1) from rfl, pr_rdD d3 (by omega) (by omega), d10 1 (by omega)]
  have l0 := (ps_ltB e0 (by omega : sv k 6 < 1001)).1
  have l1 : sv k 6 ≤ ps_lt (cv (sv k 1) 2) (sv k 6) := ps_ltH (by omega)
  have t1 : ps_T sv cv k 1 = ps_lt (cv (sv k 1) 2) (sv k 6) := rfl
  have t2 : ps_T sv cv k 2 = ps_lt (cv (sv k 1) 3) (sv k 6) := rfl
  unfold f_X5_lossHour ps_L
  rw [g4, g9, g3, t1, t2]
  rcases (by omega : sv k 0 = 0 ∨ sv k 0 = 1 ∨ sv k 0 = 2 ∨ sv k 0 = 3 ∨ sv k 0 = 4 ∨ sv k 0 = 5) with h | h | h | h | h | h
  · rw [h, if_neg (by decide), if_neg (by decide), if_neg (by decide), if_neg (by decide), if_neg (by decide)]
    simp
  · rw [h, if_pos (by decide), pr_sb, pr_dr d2, pr_sb, pr_sb, d5, pr_sb, r0, pr_sb, pc_later e0 (by omega)]
    simp
  · rw [h, if_neg (by decide), if_pos (by decide), pr_sb, pr_dr d2, pr_sb, pr_sb, d5, pr_sb, r1, pr_sb, pc_later e1 (by omega)]
    simp
  · rw [h, if_neg (by decide), if_neg (by decide), if_pos (by decide), pr_sb, pr_dr d2, pr_sb, pr_sb, d5, pr_sb, r0, pr_sb, pc_later e0 (by omega)]
    simp
  · rw [h, if_neg (by decide), if_neg (by decide), if_neg (by decide), if_pos (by decide), pr_sb, pr_dr d2, pr_sb, pr_sb, d5, pr_sb, r1, pr_sb, pc_later e1 (by omega)]
    simp
  · rw [h, if_neg (by decide), if_neg (by decide), if_neg (by decide), if_neg (by decide), if_pos (by decide), pr_sb, pr_dr d2, pr_sb, pr_sb, d5, pr_sb, r0, pr_sb, pc_later e0 (by omega), pr_sb]
    unfold f_X5_halfWayTo
    rw [g9]
    by_cases hx : ps_lt (cv (sv k 1) 2) (sv k 6) = 1000
    · rw [hx, if_pos rfl]
      rfl
    · have hx' : ¬ nI (ps_lt (cv (sv k 1) 2) (sv k 6)) = 1000 := fun z => hx ((pr_e1000 (Nat.lt_trans l0 (by decide))).mp z)
      rw [if_neg hx', pr_half l1 l0]
      simp [hx]
theorem pc_P (hB : pv_B c s sv cv) (x3 : pv_CS s oc os sv S I R) (x4 : pv_CC c oc cv S I R) {k w : Nat} (hk : k < s) (hw : w < 2) : f_X5_passHour S I R (os k) (nI w) = some (nI (ps sv cv k w)) := by
  unfold f_X5_passHour ps
  rcases (by omega : w = 0 ∨ w = 1) with rfl | rfl
  · rw [if_pos rfl, pc_T hB x3 x4 hk]
    rfl
  · rw [if_neg (by decide), pc_L hB x3 x4 hk]
    rfl
theorem pm_T (hB : pv_B c s sv cv) (h3 : pv_MS s sv I) (h4 : pv_MC c cv I) {k kd : Nat} (hk : k < s) (hkd : kd < 6) : f_X10_thingBy I (nI k) (nI kd) = some (nI (ps_T sv cv k kd)) := by
  obtain ⟨b0, b1, b2, b3, b4, b5, b6, b7, b8, b9, b10⟩ := hB.2.2.1 k hk
  have hs := hB.2.1
  have hc := hB.1
  obtain ⟨g1, g2, -, -, -, -, g7, g8, -⟩ := h3 k hk
  obtain ⟨-, -, d3⟩ := h4 (sv k 1) b1
  obtain ⟨-, -, -, b11⟩ := hB.2.2.2 (sv k 1) b1
  have e0 := b11 0 (by omega)
  have e1 := b11 1 (by omega)
  have e2 := b11 2 (by omega)
  have m3 : (3 : Int32) * nI (sv k 1) = nI (3 * sv k 1) := by rw [pr_lit 3, pk_mul]
  have r0 : rk_rd I 37 12 (3 * nI (sv k 1)) = some (nI (cv (sv k 1) 2) - 1) := by rw [m3, pr_rd (by omega) (by omega)]; exact congrArg some (d3 0 (by omega))
  have r1 : rk_rd I 37 12 (3 * nI (sv k 1) + 1) = some (nI (cv (sv k 1) 3) - 1) := by rw [m3, nI_1, pr_rd (by omega) (by omega)]; exact congrArg some (d3 1 (by omega))
  have r2 : rk_rd I 37 12 (3 * nI (sv k 1) + 2) = some (nI (cv (sv k 1) 4) - 1) := by rw [m3, show (2 : Int32) = nI 2 from rfl, nI_add, pr_rd (by omega) (by omega)]; exact congrArg some (d3 2 (by omega))
  have l1 := (ps_ltB e1 (by omega : sv k 6 < 1001)).1
  unfold f_X10_thingBy ps_T
  rw [pr_rd (by omega) (by omega), pr_rd (by omega) (by omega), pr_rd (by omega) (by omega), g2, g7, g8, pr_sb]
  rcases (by omega : kd = 0 ∨ kd = 1 ∨ kd = 2 ∨ kd = 3 ∨ kd = 4 ∨ kd = 5) with h | h | h | h | h | h
  · rw [h, if_neg (by decide), if_neg (by decide), if_neg (by decide), if_neg (by decide), if_neg (by decide)]
    simp
  · rw [h, if_pos (by decide), r0, pr_sb, pr_sb, pm_later e0 (by omega)]
    simp
  · rw [h, if_neg (by decide), if_pos (by decide), r1, pr_sb, pr_sb, pm_later e1 (by omega)]
    simp
  · rw [h, if_neg (by decide), if_neg (by decide), if_pos (by decide), pr_sb, pr_sb, pm_later (by omega) (by omega)]
    simp
  · rw [h, if_neg (by decide), if_neg (by decide), if_neg (by decide), if_pos (by decide), r2, pr_sb, r1, pr_sb, pr_sb, pm_later e1 (by omega), pr_sb, pm_later e2 l1]
    simp
  · rw [h, if_neg (by decide), if_neg (by decide), if_neg (by decide), if_neg (by decide), if_pos (by decide), pr_sb, pr_sb, pm_later (by omega) (by omega)]
    simp
theorem pm_L (hB : pv_B c s sv cv) (h3 : pv_MS s sv I) (h4 : pv_MC c cv I) {k kd : Nat} (hk : k < s) (hkd : kd < 6) : f_X10_lossBy I (nI k) (nI kd) = some (nI (ps_L sv cv k kd)) := by
  obtain ⟨b0, b1, b2, b3, b4, b5, b6, b7, b8, b9, b10⟩ := hB.2.2.1 k hk
  have hs := hB.2.1
  have g7 := (h3 k hk).2.2.2.2.2.2.1
  have t1 : f_X10_thingBy I (nI k) 1 = some (nI (ps_T sv cv k 1)) := pm_T (kd := 1) hB h3 h4 hk (by omega)
  have t2 : f_X10_thingBy I (nI k) 2 = some (nI (ps_T sv cv k 2)) := pm_T (kd := 2) hB h3 h4 hk (by omega)
  have l0 := ps_TB hB hk 1
  have l1 : sv k 6 ≤ ps_T sv cv k 1 := ps_ltH (by omega)
  unfold f_X10_lossBy ps_L
  rw [pr_rd (by omega) (by omega), t1, pr_sb, g7]
  rcases (by omega : kd = 0 ∨ kd = 1 ∨ kd = 2 ∨ kd = 3 ∨ kd = 4 ∨ kd = 5) with h | h | h | h | h | h
  · rw [h, if_neg (by decide), if_neg (by decide), if_neg (by decide), if_neg (by decide), if_neg (by decide)]
    simp
  · rw [h, if_pos (by decide)]
    simp
  · rw [h, if_neg (by decide), if_pos (by decide), t2]
    simp
  · rw [h, if_neg (by decide), if_neg (by decide), if_pos (by decide)]
    simp
  · rw [h, if_neg (by decide), if_neg (by decide), if_neg (by decide), if_pos (by decide), t2]
    simp
  · rw [h, if_neg (by decide), if_neg (by decide), if_neg (by decide), if_neg (by decide), if_pos (by decide)]
    by_cases hx : ps_T sv cv k 1 = 1000
    · rw [hx, if_pos rfl]
      rfl
    · rw [if_neg (fun z => hx ((pr_e1000 (by omega)).mp z)), pr_sb, pr_sb, pr_half l1 l0]
      simp [hx]
theorem pm_P (hB : pv_B c s sv cv) (h3 : pv_MS s sv I) (h4 : pv_MC c cv I) {k w : Nat} (hk : k < s) (hw : w < 2) : f_X10_passes I (nI k) (nI w) = some (nI (ps sv cv k w)) := by
  have hs := hB.2.1
  have b0 := (hB.2.2.1 k hk).1
  unfold f_X10_passes ps
  rw [pr_rd (by omega) (by omega), (h3 k hk).1]
  rcases (by omega : w = 0 ∨ w = 1) with rfl | rfl
  · rw [if_pos rfl, pr_sb, pm_T hB h3 h4 hk b0]
    rfl
  · rw [if_neg (by decide), pr_sb, pm_L hB h3 h4 hk b0]
    rfl
end PS
theorem ck_told {n : Nat} {S : rk_Sh} {I : rk_I} {R : rk_R} (h : iv n S I R) (a b : Int32) : ∃ v, f_X9_told S I R a b = some v ∧ f_X10_told I a b = some v := by
  obtain ⟨c, s, t, r, oc, os, ot, sv, cv, h1, h2, h3, h4, h5, ⟨hO, x1, x2, x3, x4⟩, h7, h8, h9, h10, h11⟩ := h
  have hs := h5.2.1
  unfold f_X9_told f_X10_told
  rcases pg_sale (I' := I) hs x2 (fun k hk => (x3 k hk).1) h7.2.1 a with ⟨k, g1, rfl, g3, g4⟩ | ⟨g3, g4⟩
  · obtain ⟨-, y1, y2, y3, y4, y5, y6, y7, y8, y9, y10⟩ := x3 k g1
    obtain ⟨m0, m1, m2, m3, m4, m5, m6, m7, m8⟩ := h7.2.2.1 k g1
    obtain ⟨-, d2, -, -, -, -, d7, -, -, -⟩ := x4 (sv k 1) (h5.2.2.1 k g1).2.1
    have p0 := pc_T h5 x3 x4 g1
    have p1 := pc_L h5 x3 x4 g1
    have q0 : f_X10_passes I (nI k) 0 = _ := pm_P (w := 0) h5 h7.2.2.1 h7.2.2.2 g1 (by omega)
    have q1 : f_X10_passes I (nI k) 1 = _ := pm_P (w := 1) h5 h7.2.2.1 h7.2.2.2 g1 (by omega)
    rw [g3, pr_sb, pr_oc1, pr_ck y1, pr_sb, g4, pr_sb, if_neg (by decide), q0, q1]
    unfold f_X5_tell
    rw [p0, p1, y3, y4, y5, y6, y7, y8, y9, y10, y2, pr_rd (by omega) (by omega), pr_rd (by omega) (by omega), pr_rd (by omega) (by omega), pr_rd (by omega) (by omega), pr_rd (by omega) (by omega), pr_rd (by omega) (by omega), pr_rd (by omega) (by omega), pr_rd (by omega) (by omega), pr_rd (by omega) (by omega), m0, m1, m2, m3, m4, m5, m6, m7, m8, pr_sb (some (oc (sv k 1))), pr_dr d2, pr_sb (oc (sv k 1)), d7]
    simp only [pr_sb]
    by_cases b0 : b = 0
    · rw [if_pos b0, if_pos b0]; exact ⟨_, rfl, rfl⟩
    rw [if_neg b0, if_neg b0]
    by_cases b0 : b = 1
    · rw [if_pos b0, if_pos b0]; exact ⟨_, rfl, rfl⟩
    rw [if_neg b0, if_neg b0]
    by_cases b0 : b = 2
    · rw [if_pos b0, if_pos b0]; exact ⟨_, rfl, rfl⟩
    rw [if_neg b0, if_neg b0]
    by_cases b0 : b = 3
    · rw [if_pos b0, if_pos b0]; exact ⟨_, rfl, rfl⟩
    rw [if_neg b0, if_neg b0]
    by_cases b0 : b = 4
    · rw [if_pos b0, if_pos b0]; exact ⟨_, rfl, rfl⟩
    rw [if_neg b0, if_neg b0]
    by_cases b0 : b = 5
    · rw [if_pos b0, if_pos b0]; exact ⟨_, rfl, rfl⟩
    rw [if_neg b0, if_neg b0]
    by_cases b0 : b = 6
    · rw [if_pos b0, if_pos b0]; exact ⟨_, rfl, rfl⟩
    rw [if_neg b0, if_neg b0]
    by_cases b0 : b = 7
    · rw [if_pos b0, if_pos b0]; exact ⟨_, rfl, rfl⟩
    rw [if_neg b0, if_neg b0]
    by_cases b0 : b = 8
    · rw [if_pos b0, if_pos b0]; exact ⟨_, rfl, rfl⟩
    rw [if_neg b0, if_neg b0]
    by_cases b0 : b = 9
    · rw [if_pos b0, if_pos b0]; exact ⟨_, rfl, rfl⟩
    rw [if_neg b0, if_neg b0]
    by_cases b0 : b = 10
    · rw [if_pos b0, if_pos b0]; exact ⟨_, rfl, rfl⟩
    rw [if_neg b0, if_neg b0]
    exact ⟨_, rfl, rfl⟩
  · refine ⟨-5, ?_, ?_⟩
    · rw [g3]; rfl
    · rw [g4]; rfl
