/-! hangs -/
def hr_v (cv : pv_V) (g f : Nat) : pv_V := fun j i => if j = g ∧ i = 2 + f then 0 else cv j i
def pp_v (sv : pv_V) (k : Nat) : pv_V := fun j i => if j = k ∧ i = 7 then 0 else sv j i
theorem hr_o {cv : pv_V} {g f j i : Nat} (h : i < 2) : hr_v cv g f j i = cv j i := if_neg (fun z => by omega)
theorem pp_o {sv : pv_V} {k j i : Nat} (h : i ≠ 7) : pp_v sv k j i = sv j i := if_neg (fun z => h z.2)
theorem hr_B {c s : Nat} {sv cv : pv_V} (h : pv_B c s sv cv) {g f : Nat} : pv_B c s sv (hr_v cv g f) := by
  refine ⟨h.1, h.2.1, h.2.2.1, fun j hj => ?_⟩
  have q := h.2.2.2 j hj
  rw [hr_o (by omega), hr_o (by omega)]
  refine ⟨q.1, q.2.1, q.2.2.1, fun i hi => ?_⟩
  unfold hr_v
  split
  · omega
  · exact q.2.2.2 i hi
theorem hr_X {n c s : Nat} {oc os : Nat → Nat} {sv cv : pv_V} {S : rk_Sh} {I : rk_I} {R : rk_R} (h : pv_X n c s oc os sv cv S I R) {g f : Nat} (hg : g < c) (hf : f < 3) : pv_X n c s oc os sv (hr_v cv g f) S (rk_ui I (oc g + 1) f (-1)) R := by
  obtain ⟨hO, x1, x2, x3, x4⟩ := h
  have hog := hO.1 g hg
  refine ⟨hO, by rw [ui_o (by omega)]; exact x1, by rw [ui_o (by omega)]; exact x2, fun j hj => ?_, fun j hj => ?_⟩
  · rw [ui_o (pv_dS x4 x3 hg hj).2.1]
    exact x3 j hj
  · rw [hr_o (by omega), hr_o (by omega), ui_o (pv_dC x4 hj hg).1]
    obtain ⟨g0, g1, g2, g3, g4, g5, g6, g7, g8, g9⟩ := x4 j hj
    refine ⟨g0, g1, g2, g3, g4, g5, g6, g7, g8, fun i hi => ?_⟩
    unfold hr_v
    by_cases hjg : j = g
    · subst hjg
      by_cases hif : i = f
      · subst hif
        rw [ui_s, if_pos ⟨rfl, rfl⟩]
        exact pr_m1
      · rw [ui_n hif, if_neg (fun z => hif (by omega))]
        exact g9 i hi
    · have : oc j + 1 ≠ oc g + 1 := fun e => hjg (hO.2.2.1 j g hj hg (by omega))
      rw [ui_o this, if_neg (fun z => hjg z.1)]
      exact g9 i hi
theorem hr_Y {c s : Nat} {sv cv : pv_V} {I : rk_I} (h : pv_Y c s sv cv I) {g f : Nat} (hf : f < 3) : pv_Y c s sv (hr_v cv g f) (rk_ui I 37 (3 * g + f) (-1)) := by
  obtain ⟨h1, h2, h3, h4⟩ := h
  refine ⟨by rw [ui_o (by omega)]; exact h1, by rw [ui_o (by omega)]; exact h2, fun j hj => ?_, fun j hj => ?_⟩
  · rw [ui_o (by omega : 38 ≠ 37), ui_o (by omega : 39 ≠ 37), ui_o (by omega : 40 ≠ 37), ui_o (by omega : 41 ≠ 37), ui_o (by omega : 42 ≠ 37), ui_o (by omega : 43 ≠ 37), ui_o (by omega : 44 ≠ 37), ui_o (by omega : 45 ≠ 37), ui_o (by omega : 46 ≠ 37)]
    exact h3 j hj
  · rw [hr_o (by omega), hr_o (by omega), ui_o (by omega : 35 ≠ 37), ui_o (by omega : 36 ≠ 37)]
    obtain ⟨g1, g2, g3⟩ := h4 j hj
    refine ⟨g1, g2, fun i hi => ?_⟩
    unfold hr_v
    by_cases hx : 3 * j + i = 3 * g + f
    · rw [hx, ui_s, if_pos (by omega)]
      exact pr_m1
    · rw [ui_n hx, if_neg (by omega)]
      exact g3 i hi
theorem pp_B {c s : Nat} {sv cv : pv_V} (h : pv_B c s sv cv) {k : Nat} : pv_B c s (pp_v sv k) cv := by
  refine ⟨h.1, h.2.1, fun j hj => ?_, h.2.2.2⟩
  have q := h.2.2.1 j hj
  simp (disch := omega) only [pp_o]
  refine ⟨q.1, q.2.1, q.2.2.1, q.2.2.2.1, q.2.2.2.2.1, q.2.2.2.2.2.1, q.2.2.2.2.2.2.1, q.2.2.2.2.2.2.2.1, q.2.2.2.2.2.2.2.2.1, ?_, q.2.2.2.2.2.2.2.2.2.2⟩
  unfold pp_v
  split
  · omega
  · exact q.2.2.2.2.2.2.2.2.2.1
theorem pp_Y {c s : Nat} {sv cv : pv_V} {I : rk_I} (h : pv_Y c s sv cv I) {k : Nat} : pv_Y c s (pp_v sv k) cv (rk_ui I 45 k (-1)) := by
  obtain ⟨h1, h2, h3, h4⟩ := h
  refine ⟨by rw [ui_o (by omega)]; exact h1, by rw [ui_o (by omega)]; exact h2, fun j hj => ?_, fun j hj => ?_⟩
  · simp (disch := omega) only [pp_o]
    rw [ui_o (by omega : 38 ≠ 45), ui_o (by omega : 39 ≠ 45), ui_o (by omega : 40 ≠ 45), ui_o (by omega : 41 ≠ 45), ui_o (by omega : 42 ≠ 45), ui_o (by omega : 43 ≠ 45), ui_o (by omega : 44 ≠ 45), ui_o (by omega : 46 ≠ 45)]
    obtain ⟨g0, g1, g2, g3, g4, g5, g6, g7, g8⟩ := h3 j hj
    refine ⟨g0, g1, g2, g3, g4, g5, g6, ?_, g8⟩
    unfold pp_v
    by_cases hjk : j = k
    · subst hjk
      rw [ui_s, if_pos ⟨rfl, rfl⟩]
      exact pr_m1
    · rw [ui_n hjk, if_neg (fun z => hjk z.1)]
      exact g7
  · rw [ui_o (by omega : 35 ≠ 45), ui_o (by omega : 36 ≠ 45), ui_o (by omega : 37 ≠ 45)]
    exact h4 j hj
/-- APART and papers move no LOSS -/
theorem hr_p {sv cv : pv_V} {g : Nat} : (fun k => ps sv (hr_v cv g 2) k 1) = fun k => ps sv cv k 1 := by
  funext k
  have e : ∀ j i, i < 4 → hr_v cv g 2 j i = cv j i := fun j i hi => if_neg (by omega)
  show ps_L sv (hr_v cv g 2) k (sv k 0) = ps_L sv cv k (sv k 0)
  have t1 : ps_T sv (hr_v cv g 2) k 1 = ps_T sv cv k 1 := by
    show ps_lt (hr_v cv g 2 (sv k 1) 2) (sv k 6) = _
    rw [e _ _ (by omega)]
    rfl
  have t2 : ps_T sv (hr_v cv g 2) k 2 = ps_T sv cv k 2 := by
    show ps_lt (hr_v cv g 2 (sv k 1) 3) (sv k 6) = _
    rw [e _ _ (by omega)]
    rfl
  unfold ps_L
  rw [t1, t2]
theorem pp_p {sv cv : pv_V} {q : Nat} : (fun k => ps (pp_v sv q) cv k 1) = fun k => ps sv cv k 1 := by
  funext k
  show ps_L (pp_v sv q) cv k (pp_v sv q k 0) = ps_L sv cv k (sv k 0)
  have t1 : ps_T (pp_v sv q) cv k 1 = ps_T sv cv k 1 := by
    show ps_lt (cv (pp_v sv q k 1) 2) (pp_v sv q k 6) = ps_lt (cv (sv k 1) 2) (sv k 6)
    rw [pp_o (by omega), pp_o (by omega)]
  have t2 : ps_T (pp_v sv q) cv k 2 = ps_T sv cv k 2 := by
    show ps_lt (cv (pp_v sv q k 1) 3) (pp_v sv q k 6) = ps_lt (cv (sv k 1) 3) (sv k 6)
    rw [pp_o (by omega), pp_o (by omega)]
  unfold ps_L
  rw [t1, t2]
  simp (disch := omega) only [pp_o]
theorem pp_H {sv : pv_V} {q : Nat} {L : Nat → Nat} {h0 : Nat → Nat} : ∀ d, lg_H (pp_v sv q) L h0 d = lg_H sv L h0 d := by
  intro d
  induction d with
  | zero => rfl
  | succ d ih =>
    show lg_t (pp_v sv q) (lg_H (pp_v sv q) L h0 d) (L d) = lg_t sv (lg_H sv L h0 d) (L d)
    rw [ih]
    unfold lg_t
    simp (disch := omega) only [pp_o]
/-- all differences of all hands -/
def hg_s (h h0 : Nat → Nat) : Nat → Nat
  | 0 => 0
  | x + 1 => hg_s h h0 x + if h x < h0 x then h0 x - h x else h x - h0 x
theorem hg_0 (h : Nat → Nat) : ∀ x, hg_s h h x = 0 := by
  intro x
  induction x with
  | zero => rfl
  | succ x ih =>
    show hg_s h h x + _ = 0
    rw [ih, if_neg (Nat.lt_irrefl _)]
    omega
theorem hg_B {h h0 : Nat → Nat} {b : Nat} (h1 : ∀ x, h x ≤ b) (h2 : ∀ x, h0 x ≤ b) : ∀ x, hg_s h h0 x ≤ b * x := by
  intro x
  induction x with
  | zero => exact Nat.zero_le _
  | succ x ih =>
    have a := h1 x
    have d := h2 x
    rw [Nat.mul_succ]
    show hg_s h h0 x + _ ≤ _
    split <;> omega
theorem hg_abs {a b : Nat} (ha : a < 1073741824) (hb : b < 1073741824) : rk_abs (nI a - nI b) = nI (if a < b then b - a else a - b) := by
  unfold rk_abs
  by_cases h : a < b
  · have : ¬ 0 ≤ nI a - nI b := by
      have := pk_sneg (a := a) (b := b) (by omega) h
      rw [fa_lt, pr_z] at this
      rw [fa_le, pr_z]
      omega
    rw [if_neg this, if_pos h, Int32.zero_sub, Int32.neg_sub, pk_sub (by omega)]
  · rw [if_neg h, pk_sub (by omega), if_pos (nI_pos' (by omega))]
theorem hc_loop {S : rk_Sh} {I : rk_I} {R : rk_R} {h h0 : Nat → Nat} {b : Nat} (hb : b < 100000) (h1 : ∀ x, h x ≤ b) (h2 : ∀ x, h0 x ≤ b) (e1 : ∀ x, x < 10 → I 13 x = nI (h x)) (e2 : ∀ x, x < 10 → I 19 x = nI (h0 x)) : rk_while (fun a9 : Int32 × Int32 => f_X9_changeWithout_l54 S I R a9.1 a9.2) (0, 0) = some (nI (hg_s h h0 10), nI 10) := by
  refine pr_run (f := fun a9 : Int32 × Int32 => f_X9_changeWithout_l54 S I R a9.1 a9.2) (fun k => (nI (hg_s h h0 k), nI k)) 10 ?_ ?_
  · intro k hk
    show f_X9_changeWithout_l54 S I R (nI (hg_s h h0 k)) (nI k) = _
    unfold f_X9_changeWithout_l54
    have a := h1 k
    have d := h2 k
    rw [if_neg (show ¬ (10 : Int32) ≤ nI k from nI_ge (b := 10) hk (by omega)), pr_rd hk (by omega), pr_sb, pr_rd hk (by omega), pr_sb, e1 k hk, e2 k hk, hg_abs (by omega) (by omega), nI_add, nI_1]
    rfl
  · show f_X9_changeWithout_l54 S I R (nI (hg_s h h0 10)) (nI 10) = _
    unfold f_X9_changeWithout_l54
    rw [if_pos (by decide)]
theorem hm_loop {I : rk_I} {h h0 : Nat → Nat} {b : Nat} (hb : b < 100000) (h1 : ∀ x, h x ≤ b) (h2 : ∀ x, h0 x ≤ b) (e1 : ∀ x, x < 10 → I 47 x = nI (h x)) (e2 : ∀ x, x < 10 → I 49 x = nI (h0 x)) : rk_while (fun a9 : Int32 × Int32 => f_X10_change_l12 I a9.1 a9.2) (0, 0) = some (nI (hg_s h h0 10), nI 10) := by
  refine pr_run (f := fun a9 : Int32 × Int32 => f_X10_change_l12 I a9.1 a9.2) (fun k => (nI (hg_s h h0 k), nI k)) 10 ?_ ?_
  · intro k hk
    show f_X10_change_l12 I (nI (hg_s h h0 k)) (nI k) = _
    unfold f_X10_change_l12
    have a := h1 k
    have d := h2 k
    rw [if_neg (show ¬ (10 : Int32) ≤ nI k from nI_ge (b := 10) hk (by omega)), pr_rd hk (by omega), pr_rd hk (by omega), e1 k hk, e2 k hk]
    simp only [pr_sb]
    by_cases hlt : h k < h0 k
    · rw [if_neg (nI_ge hlt (by omega)), pk_sub (by omega), nI_add, nI_1]
      simp only [hg_s, if_pos hlt]
    · rw [if_pos (nI_le (by omega) (by omega)), pk_sub (by omega), nI_add, nI_1]
      simp only [hg_s, if_neg hlt]
  · show f_X10_change_l12 I (nI (hg_s h h0 10)) (nI 10) = _
    unfold f_X10_change_l12
    rw [if_pos (by decide)]
/-- the class's look at one hour -/
theorem hc_change {n c s : Nat} {oc os : Nat → Nat} {sv cv : pv_V} {S : rk_Sh} {I : rk_I} {R : rk_R} (hB : pv_B c s sv cv) (hX : pv_X n c s oc os sv cv S I R) {g f t : Nat} (hg : g < c) (hf : f < 3) (ht : t < 1000) {h0 : Nat → Nat} (hh0 : ∀ x, h0 x ≤ 25000) (e19 : ∀ x, x < 10 → I 19 x = nI (h0 x)) : ∃ I' R' m L d, f_X9_changeWithout S I R (oc g) (nI f) (nI t) = some (nI (hg_s (lg_H sv L (lg_0 cv g) d) h0 10), I', R') ∧ lg_L sv (fun k => ps sv (hr_v cv g f) k 1) s g m L ∧ lg_d (fun k => ps sv (hr_v cv g f) k 1) m L t d ∧ (∀ x, lg_H sv L (lg_0 cv g) d x ≤ 25000) ∧ (∀ q i, q ≠ 12 → q ≠ 13 → q ≠ 15 → I' q i = I q i) ∧ ∀ q, q ≠ 14 → R' q = R q := by
  have hB' := hr_B hB (g := g) (f := f)
  have hX' := hr_X hX hg hf
  obtain ⟨-, t1, t2, t3, t4, t5, -, -, -, t9⟩ := hX.2.2.2.2 g hg
  have hog := hX.1.1 g hg
  have e0 : lg_0 (hr_v cv g f) g = lg_0 cv g := by
    unfold lg_0
    rw [hr_o (by omega), hr_o (by omega)]
  obtain ⟨I1, R1, m, L, e1, p1, p2, p3, p4, p5, p6, p7⟩ := lc_open (w := 1) hB' hX' hg (by omega)
  have e1 : f_X1_open S (rk_ui I (oc g + 1) f (-1)) R (oc g) (nI s) 1 = some (I1, R1) := e1
  obtain ⟨I2, d, e2, q1, q2, q3, q4, q5, q6⟩ := lc_run hB' (kX hX' (kI_led p6) (kR_led p7)) hg (by omega : t < 2147483648) p1 p2 p3 p4 p5 (Nat.zero_le _) (fun i hi => absurd hi (Nat.not_lt_zero i))
  have hs := hB.2.1
  have hm := p1.1
  have hdm := q2.1
  have hHb : ∀ x, lg_H sv L (lg_0 cv g) d x ≤ 25000 := fun x => by
    have := lg_Hb hB' p1 hg d q2.1 x
    rw [e0] at this
    omega
  have i2 : ∀ q i, q ≠ 12 → q ≠ 13 → q ≠ 15 → I2 q i = rk_ui I (oc g + 1) f (-1) q i := fun q i a b e => by rw [q6 q i b (fun z => a z.1), p6 q i a b e]
  let I4 : rk_I := rk_ui I2 (oc g + 1) f (nI (cv g (2 + f)) - 1)
  have i4 : ∀ q i, q ≠ 12 → q ≠ 13 → q ≠ 15 → I4 q i = I q i := fun q i a b e => by
    show rk_ui I2 (oc g + 1) f (nI (cv g (2 + f)) - 1) q i = _
    by_cases hq : q = oc g + 1
    · subst hq
      by_cases hi : i = f
      · subst hi
        rw [ui_s, t9 _ hf]
      · rw [ui_n hi, i2 _ i a b e, ui_n hi]
    · rw [ui_o hq, i2 q i a b e, ui_o hq]
  have hl := hc_loop (S := S) (I := I4) (R := R1) (h := lg_H sv L (lg_0 cv g) d) (h0 := h0) (b := 25000) (by omega) hHb hh0 (fun x hx => by
    show rk_ui I2 (oc g + 1) f (nI (cv g (2 + f)) - 1) 13 x = _
    rw [ui_o (by omega), q5 x hx, e0]) (fun x hx => by rw [i4 19 x (by omega) (by omega) (by omega)]; exact e19 x hx)
  refine ⟨I4, R1, m, L, d, ?_, p1, q2, hHb, i4, p7⟩
  unfold f_X9_changeWithout
  rw [pr_sb, t4, pr_sb, pr_rdD t2 hf (by omega), t9 f hf, pr_sb, pr_sb, pr_sb, pr_wrD t2 hf (by omega), pr_sb, ui_o (by omega : 0 ≠ oc g + 1), hX.2.2.1, e1, pr_b2, e2, pr_sb, pr_sb, p7 (oc g) (by omega), t4, pr_sb, pr_wrD t2 hf (by omega), pr_sb]
  rw [show rk_ui I2 (oc g + 1) f (nI (cv g (2 + f)) - 1) = I4 from rfl, hl, pr_b2]
/-- the reference's look, over any view -/
theorem hm_change {c s : Nat} {sv cv : pv_V} {I : rk_I} (hB : pv_B c s sv cv) (hY : pv_Y c s sv cv I) {g m t d : Nat} {L : Nat → Nat} (hg : g < c) (ht : t < 1000) (hL : lg_L sv (fun k => ps sv cv k 1) s g m L) (hd : lg_d (fun k => ps sv cv k 1) m L t d) {h0 : Nat → Nat} (hh0 : ∀ x, h0 x ≤ 25000) (e49 : ∀ x, x < 10 → I 49 x = nI (h0 x)) : ∃ I', f_X10_change I (nI g) (nI t) = some (nI (hg_s (lg_H sv L (lg_0 cv g) d) h0 10), I') ∧ ∀ q, q ≠ 47 → q ≠ 48 → I' q = I q := by
  obtain ⟨I1, e1, p1, p2⟩ := ly_lays (w := 1) hB hY hg (by omega) ht hL hd
  have e1 : f_X10_lays I (nI g) (nI t) 1 = some I1 := e1
  have hs := hB.2.1
  have hm := hL.1
  have hdm := hd.1
  have hHb : ∀ x, lg_H sv L (lg_0 cv g) d x ≤ 25000 := fun x => by
    have := lg_Hb hB hL hg d hd.1 x
    omega
  have hl := hm_loop (I := I1) (h := lg_H sv L (lg_0 cv g) d) (h0 := h0) (b := 25000) (by omega) hHb hh0 p1 (fun x hx => by rw [p2 49 (by omega) (by omega)]; exact e49 x hx)
  refine ⟨I1, ?_, p2⟩
  unfold f_X10_change
  rw [e1, pr_sb, hl, pr_b2]
