theorem lc_fill {I : rk_I} : f_J7_fill_53178_13 I 0 = some (fl_F I 13 0 10) := by
  unfold f_J7_fill_53178_13
  have z : ((0 : Int32), I) = (fun k => (nI k, fl_F I 13 0 k)) 0 := by
    show _ = (nI 0, fl_F I 13 0 0)
    rw [fl_zero]
    rfl
  rw [z, pr_run (f := fun a9 : Int32 × rk_I => f_J7_fill_53178_13_l5 a9.2 0 a9.1) (fun k => (nI k, fl_F I 13 0 k)) 10 (b := (nI 10, fl_F I 13 0 10))]
  · rfl
  · intro k hk
    show f_J7_fill_53178_13_l5 (fl_F I 13 0 k) 0 (nI k) = _
    unfold f_J7_fill_53178_13_l5
    have e := fl_step (I := I) (o := 13) (a := 0) (k := k)
    rw [Nat.zero_add] at e
    rw [if_neg (show ¬ (10 : Int32) ≤ nI k from nI_ge (b := 10) hk (by omega)), pr_wr hk (by omega), pr_sb, nI_1, e]
  · show f_J7_fill_53178_13_l5 (fl_F I 13 0 10) 0 (nI 10) = _
    unfold f_J7_fill_53178_13_l5
    rw [if_pos (by decide)]
theorem lg_len {sv : pv_V} {p : Nat → Nat} {s g m : Nat} {L : Nat → Nat} (h : lg_L sv p s g m L) : m ≤ s := h.1
/-- scratch of the ledger -/
theorem kI_led {I I' : rk_I} (h : ∀ q i, q ≠ 12 → q ≠ 13 → q ≠ 15 → I' q i = I q i) : kI I I' := fun k i hk => h k i (fun e => by subst e; unfold kp at hk; omega) (fun e => by subst e; unfold kp at hk; omega) (fun e => by subst e; unfold kp at hk; omega)
theorem kR_led {R R' : rk_R} (h : ∀ q, q ≠ 14 → R' q = R q) : kR R R' := fun k i hk _ => by rw [h k hk]
theorem lc_open {n c s : Nat} {oc os : Nat → Nat} {sv cv : pv_V} {S : rk_Sh} {I : rk_I} {R : rk_R} (hB : pv_B c s sv cv) (hX : pv_X n c s oc os sv cv S I R) {g w : Nat} (hg : g < c) (hw : w < 2) : ∃ I' R' m L, f_X1_open S I R (oc g) (nI s) (nI w) = some (I', R') ∧ lg_L sv (fun k => ps sv cv k w) s g m L ∧ lg_A os (fun k => ps sv cv k w) m L I' R' ∧ I' 12 3 = nI m ∧ I' 12 4 = nI 0 ∧ (∀ x, x < 10 → I' 13 x = nI (lg_0 cv g x)) ∧ (∀ q i, q ≠ 12 → q ≠ 13 → q ≠ 15 → I' q i = I q i) ∧ ∀ q, q ≠ 14 → R' q = R q := by
  have hX' := hX
  obtain ⟨hO, x1, x2, x3, x4⟩ := hX
  have hs := hB.2.1
  obtain ⟨y0, y1, -, -, -, -, y6, y7, y8, -⟩ := x4 g hg
  have hgb := hB.2.2.2 g hg
  have hog := hO.1 g hg
  let I4 : rk_I := rk_ui (fl_F (rk_ui (rk_ui I 12 3 0) 12 4 0) 13 0 10) 13 (cv g 1) (nI (cv g 0))
  have i4a : ∀ q i, q ≠ 12 → q ≠ 13 → I4 q i = I q i := fun q i a b => by
    show rk_ui (fl_F (rk_ui (rk_ui I 12 3 0) 12 4 0) 13 0 10) 13 (cv g 1) (nI (cv g 0)) q i = _
    rw [ui_o b]
    unfold fl_F
    rw [if_neg (fun z => b z.1), ui_o a, ui_o a]
  have i4b : I4 12 3 = nI 0 := by
    show rk_ui (fl_F (rk_ui (rk_ui I 12 3 0) 12 4 0) 13 0 10) 13 (cv g 1) (nI (cv g 0)) 12 3 = _
    rw [ui_o (by omega)]
    unfold fl_F
    rw [if_neg (by omega), ui_n (by omega), ui_s]
    rfl
  have i4c : I4 12 4 = nI 0 := by
    show rk_ui (fl_F (rk_ui (rk_ui I 12 3 0) 12 4 0) 13 0 10) 13 (cv g 1) (nI (cv g 0)) 12 4 = _
    rw [ui_o (by omega)]
    unfold fl_F
    rw [if_neg (by omega), ui_s]
    rfl
  have i4d : ∀ x, x < 10 → I4 13 x = nI (lg_0 cv g x) := fun x hx => by
    show rk_ui (fl_F (rk_ui (rk_ui I 12 3 0) 12 4 0) 13 0 10) 13 (cv g 1) (nI (cv g 0)) 13 x = _
    unfold lg_0
    by_cases h : x = cv g 1
    · subst h
      rw [ui_s, if_pos rfl]
    · rw [ui_n h, if_neg h]
      unfold fl_F
      rw [if_pos (by omega)]
      rfl
  obtain ⟨⟨z, I5, R5⟩, e1, m, L, p1, p2, p3, p4, p5, p6, p7⟩ := pr_for0 (f := fun a9 : Int32 × rk_I × rk_R => f_X1_open_l34 S a9.2.1 a9.2.2 (oc g) (nI s) (nI w) a9.1) (fun k a => a.1 = nI k ∧ ∃ m L, lg_L sv (fun k => ps sv cv k w) k g m L ∧ lg_A os (fun k => ps sv cv k w) m L a.2.1 a.2.2 ∧ a.2.1 12 3 = nI m ∧ a.2.1 12 4 = nI 0 ∧ (∀ x, x < 10 → a.2.1 13 x = nI (lg_0 cv g x)) ∧ (∀ q i, q ≠ 12 → q ≠ 13 → q ≠ 15 → a.2.1 q i = I q i) ∧ ∀ q, q ≠ 14 → a.2.2 q = R q) s (fun b => ∃ m L, lg_L sv (fun k => ps sv cv k w) s g m L ∧ lg_A os (fun k => ps sv cv k w) m L b.2.1 b.2.2 ∧ b.2.1 12 3 = nI m ∧ b.2.1 12 4 = nI 0 ∧ (∀ x, x < 10 → b.2.1 13 x = nI (lg_0 cv g x)) ∧ (∀ q i, q ≠ 12 → q ≠ 13 → q ≠ 15 → b.2.1 q i = I q i) ∧ ∀ q, q ≠ 14 → b.2.2 q = R q) (0, I4, R) ⟨rfl, 0, fun _ => 0, ⟨by omega, fun i j a b => absurd b (by omega), fun i a => absurd a (by omega), fun k a => absurd a (by omega)⟩, fun i a => absurd a (by omega), i4b, i4c, i4d, fun q i a b _ => i4a q i a b, fun _ _ => rfl⟩ (by
      rintro k ⟨x, K, Q⟩ hk ⟨hx, m, L, g1, g2, g3, g4, g5, g6, g7⟩
      left
      have hx : x = nI k := hx
      subst hx
      have g2 : lg_A os (fun k => ps sv cv k w) m L K Q := g2
      have g3 : K 12 3 = nI m := g3
      have g4 : K 12 4 = nI 0 := g4
      have g5 : ∀ x, x < 10 → K 13 x = nI (lg_0 cv g x) := g5
      have g6 : ∀ q i, q ≠ 12 → q ≠ 13 → q ≠ 15 → K q i = I q i := g6
      have g7 : ∀ q, q ≠ 14 → Q q = R q := g7
      have hXk := kX hX' (kI_led g6) (kR_led g7)
      obtain ⟨-, -, -, k3, k4⟩ := hXk
      obtain ⟨r0, r1, r2, -⟩ := k3 k hk
      have hcg := (hB.2.2.1 k hk).2.1
      have hd := (k4 (sv k 1) hcg).2.1
      have hm := g1.1
      by_cases hkg : sv k 1 = g
      · have hpp := pc_P hB k3 k4 hk hw
        obtain ⟨I', R', j, e1, j1, j2, j3, j4, j5, j6, j7⟩ := lc_enter (p := fun k => ps sv cv k w) (k := k) (by omega) g3 g2 (fun i hi => (k3 (L i) (by have := (g1.2.2.1 i hi).1; omega)).2.1) (fun i hi => ps_B hB (by have := (g1.2.2.1 i hi).1; omega) w) (ps_B hB hk w)
        refine ⟨(nI (k + 1), I', R'), ?_, rfl, m + 1, _, lg_ins g1 hkg j1 j2 j3, j4, j5, ?_, fun x hx => ?_, fun q i a b d => ?_, fun q a => ?_⟩
        · show f_X1_open_l34 S K Q (oc g) (nI s) (nI w) (nI k) = _
          unfold f_X1_open_l34
          rw [if_neg (nI_ge hk (by omega)), pr_rdR (by omega) (by omega), r0, pr_sb, pr_dr r1, pr_sb, pr_sb, r2, pr_dr hd, pr_sb, if_pos (by rw [hkg]), hpp, pr_sb, e1, pr_b2, nI_1]
        · show I' 12 4 = _
          rw [j6 12 4 (by omega) (by omega)]
          exact g4
        · show I' 13 x = _
          rw [j6 13 x (by omega) (by omega)]
          exact g5 x hx
        · show I' q i = _
          rw [j6 q i d (fun e => a e.1)]
          exact g6 q i a b d
        · show R' q = _
          rw [j7 q a]
          exact g7 q a
      · refine ⟨(nI (k + 1), K, Q), ?_, rfl, m, L, lg_skip g1 hkg, g2, g3, g4, g5, g6, g7⟩
        have hne : ¬ oc (sv k 1) = oc g := fun e => hkg (hO.2.2.1 _ _ hcg hg e)
        show f_X1_open_l34 S K Q (oc g) (nI s) (nI w) (nI k) = _
        unfold f_X1_open_l34
        rw [if_neg (nI_ge hk (by omega)), pr_rdR (by omega) (by omega), r0, pr_sb, pr_dr r1, pr_sb, pr_sb, r2, pr_dr hd, pr_sb, if_neg hne, nI_1]) (by
      rintro ⟨x, K, Q⟩ ⟨hx, h⟩
      have hx : x = nI s := hx
      subst hx
      refine ⟨(nI s, K, Q), ?_, h⟩
      show f_X1_open_l34 S K Q (oc g) (nI s) (nI w) (nI s) = _
      unfold f_X1_open_l34
      rw [if_pos (nI_le (Nat.le_refl _) (by omega))])
  refine ⟨I5, R5, m, L, ?_, p1, p2, p3, p4, p5, p6, p7⟩
  have f1 : ∀ K : rk_I, (∀ i, K (oc g) i = I (oc g) i) → rk_wr K 13 10 (K (oc g) 2) (K (oc g) 1) = some (rk_ui K 13 (cv g 1) (nI (cv g 0))) := fun K hK => by
    rw [hK, hK, y7, y8, pr_wr hgb.2.2.1 (by omega)]
  unfold f_X1_open
  rw [pr_sb, pr_sb, lc_fill, pr_sb, f1 _ (fun i => by
    unfold fl_F
    rw [if_neg (by omega), ui_o (by omega), ui_o (by omega)]), pr_sb, e1, pr_b3]
/-- what is held, no more than this -/
theorem lg_Hb {c s : Nat} {sv cv : pv_V} (hB : pv_B c s sv cv) {p : Nat → Nat} {g m : Nat} {L : Nat → Nat} (hL : lg_L sv p s g m L) (hg : g < c) : ∀ d, d ≤ m → ∀ x, lg_H sv L (lg_0 cv g) d x ≤ 1000 * (d + 1) := by
  intro d
  induction d with
  | zero =>
    intro _ x
    have := hB.2.2.2 g hg
    show lg_0 cv g x ≤ _
    unfold lg_0
    split <;> omega
  | succ d ih =>
    intro hd x
    have h1 := ih (by omega) x
    have h2 := hB.2.2.1 (L d) (hL.2.2.1 d (by omega)).1
    show lg_t sv (lg_H sv L (lg_0 cv g) d) (L d) x ≤ _
    unfold lg_t
    split
    · omega
    · split <;> omega
theorem lc_run {n c s : Nat} {oc os : Nat → Nat} {sv cv : pv_V} {S : rk_Sh} {I : rk_I} {R : rk_R} (hB : pv_B c s sv cv) (hX : pv_X n c s oc os sv cv S I R) {g w m t d0 : Nat} {L : Nat → Nat} (hg : g < c) (ht : t < 2147483648) (hL : lg_L sv (fun k => ps sv cv k w) s g m L) (hA : lg_A os (fun k => ps sv cv k w) m L I R) (h3 : I 12 3 = nI m) (h4 : I 12 4 = nI d0) (h13 : ∀ x, x < 10 → I 13 x = nI (lg_H sv L (lg_0 cv g) d0 x)) (hd0 : d0 ≤ m) (hd1 : ∀ i, i < d0 → ps sv cv (L i) w ≤ t) : ∃ I' d, f_X1_runTo S I R (nI t) = some I' ∧ d0 ≤ d ∧ lg_d (fun k => ps sv cv k w) m L t d ∧ I' 12 3 = nI m ∧ I' 12 4 = nI d ∧ (∀ x, x < 10 → I' 13 x = nI (lg_H sv L (lg_0 cv g) d x)) ∧ ∀ q i, q ≠ 13 → ¬ (q = 12 ∧ i = 4) → I' q i = I q i := by
  have hs := hB.2.1
  have hm := hL.1
  obtain ⟨hO, x1, x2, x3, x4⟩ := hX
  obtain ⟨I1, e1, d, p1, p2, p3, p4, p5, p6⟩ := pr_for (f := fun a9 : rk_I => f_X1_runTo_l0 S a9 R (nI t)) (fun d a => d0 ≤ d ∧ (∀ i, i < d → ps sv cv (L i) w ≤ t) ∧ a 12 3 = nI m ∧ a 12 4 = nI d ∧ (∀ x, x < 10 → a 13 x = nI (lg_H sv L (lg_0 cv g) d x)) ∧ ∀ q i, q ≠ 13 → ¬ (q = 12 ∧ i = 4) → a q i = I q i) m (fun b => ∃ d, d0 ≤ d ∧ lg_d (fun k => ps sv cv k w) m L t d ∧ b 12 3 = nI m ∧ b 12 4 = nI d ∧ (∀ x, x < 10 → b 13 x = nI (lg_H sv L (lg_0 cv g) d x)) ∧ ∀ q i, q ≠ 13 → ¬ (q = 12 ∧ i = 4) → b q i = I q i) (by
      rintro d K hd ⟨g0, g1, g2, g3, g4, g5⟩
      have hLd := hL.2.2.1 d hd
      have hA15 : K 15 d = nI (ps sv cv (L d) w) := (g5 15 d (by omega) (by omega)).trans (hA d hd).1
      have hpb := ps_B hB hLd.1 w
      have c0 : ¬ nI m ≤ nI d := nI_ge hd (by omega)
      by_cases hlt : t < ps sv cv (L d) w
      · right
        refine ⟨K, ?_, d, g0, ⟨by omega, g1, fun _ => hlt⟩, g2, g3, g4, g5⟩
        show f_X1_runTo_l0 S K R (nI t) = _
        unfold f_X1_runTo_l0
        rw [g2, g3, if_neg c0, pr_rd (by omega) (by omega), hA15, pr_sb, if_pos (nI_lt hlt (by omega))]
      · left
        obtain ⟨r0, r1, r2, -, r4, r5, r6, -⟩ := x3 (L d) hLd.1
        have hob := hO.2.1 (L d) hLd.1
        have hb := hB.2.2.1 (L d) hLd.1
        have hH := lg_Hb hB hL hg d (by omega)
        have ho : ∀ i, K (os (L d)) i = I (os (L d)) i := fun i => g5 _ i (by omega) (by omega)
        have a1 : K 13 (sv (L d) 2) = nI (lg_H sv L (lg_0 cv g) d (sv (L d) 2)) := g4 _ hb.2.2.1
        have a2 : K 13 (sv (L d) 3) = nI (lg_H sv L (lg_0 cv g) d (sv (L d) 3)) := g4 _ hb.2.2.2.1
        have b1 := hH (sv (L d) 2)
        have b2 := hH (sv (L d) 3)
        refine ⟨rk_ui (rk_ui (rk_ui K 13 (sv (L d) 2) (nI (lg_H sv L (lg_0 cv g) d (sv (L d) 2) - min (sv (L d) 4) (lg_H sv L (lg_0 cv g) d (sv (L d) 2))))) 13 (sv (L d) 3) (nI (lg_H sv L (lg_0 cv g) d (sv (L d) 3) + min (sv (L d) 4) (lg_H sv L (lg_0 cv g) d (sv (L d) 2))))) 12 4 (nI (d + 1)), ?_, by omega, fun i hi => ?_, ?_, ui_s, fun x hx => ?_, fun q i a b => ?_⟩
        · show f_X1_runTo_l0 S K R (nI t) = _
          unfold f_X1_runTo_l0
          rw [g2, g3, if_neg c0, pr_rd (by omega) (by omega), hA15, pr_sb, if_neg (nI_nlt (by omega) (by omega)), pr_rdR (by omega) (by omega), (hA d hd).2, pr_sb, pr_dr r1, pr_sb, ho 2, r4, pr_rd (by omega) (by omega), a1, pr_sb, pr_sb, ho 4, r6, pr_min _ _ (by omega) (by omega), pk_sub (by omega), pr_wr (by omega) (by omega), pr_sb, ui_o (by omega), ho 3, r5, pr_rd (by omega) (by omega), ui_n (Ne.symm hb.2.2.2.2.1), a2, pr_sb, nI_add, pr_wr (by omega) (by omega), pr_sb, ui_o (by omega), ui_o (by omega), g3, pr_sb, nI_1]
        · by_cases hid : i = d
          · subst hid; omega
          · exact g1 i (by omega)
        · rw [ui_n (by omega), ui_o (by omega), ui_o (by omega)]
          exact g2
        · rw [ui_o (by omega)]
          show _ = nI (lg_t sv (lg_H sv L (lg_0 cv g) d) (L d) x)
          unfold lg_t
          by_cases h3' : x = sv (L d) 3
          · rw [if_pos h3', h3', ui_s]
          · rw [if_neg h3', ui_n h3']
            by_cases h2' : x = sv (L d) 2
            · rw [if_pos h2', h2', ui_s]
            · rw [if_neg h2', ui_n h2']
              exact g4 x hx
        · by_cases hq : q = 12
          · subst hq
            rw [ui_n (fun e => b ⟨rfl, e⟩), ui_o a, ui_o a]
            exact g5 12 i a b
          · rw [ui_o hq, ui_o a, ui_o a]
            exact g5 q i a b) (by
      rintro K ⟨g0, g1, g2, g3, g4, g5⟩
      refine ⟨K, ?_, m, g0, ⟨by omega, g1, fun h => absurd h (by omega)⟩, g2, g3, g4, g5⟩
      show f_X1_runTo_l0 S K R (nI t) = _
      unfold f_X1_runTo_l0
      rw [g2, g3, if_pos (nI_le (Nat.le_refl _) (by omega))]) (m - d0) d0 I (by omega) ⟨Nat.le_refl _, hd1, h3, h4, h13, fun _ _ _ _ => rfl⟩
  refine ⟨I1, d, ?_, p1, p2, p3, p4, p5, p6⟩
  unfold f_X1_runTo
  rw [e1]
  rfl
theorem lc_held {n c s : Nat} {oc os : Nat → Nat} {sv cv : pv_V} {S : rk_Sh} {I : rk_I} {R : rk_R} (hB : pv_B c s sv cv) (hX : pv_X n c s oc os sv cv S I R) {g w t h : Nat} (hg : g < c) (hw : w < 2) (ht : t < 2147483648) (hh : h < 10) : ∃ I' R' m L d, f_X9_heldAt S I R (oc g) (nI h) (nI t) (nI w) = some (nI (lg_H sv L (lg_0 cv g) d h), I', R') ∧ lg_L sv (fun k => ps sv cv k w) s g m L ∧ lg_d (fun k => ps sv cv k w) m L t d ∧ (∀ x, x < 10 → I' 13 x = nI (lg_H sv L (lg_0 cv g) d x)) ∧ (∀ q i, q ≠ 12 → q ≠ 13 → q ≠ 15 → I' q i = I q i) ∧ ∀ q, q ≠ 14 → R' q = R q := by
  obtain ⟨I1, R1, m, L, e1, p1, p2, p3, p4, p5, p6, p7⟩ := lc_open hB hX hg hw
  obtain ⟨I2, d, e2, q1, q2, q3, q4, q5, q6⟩ := lc_run hB (kX hX (kI_led p6) (kR_led p7)) hg ht p1 p2 p3 p4 p5 (Nat.zero_le _) (fun i hi => absurd hi (Nat.not_lt_zero i))
  refine ⟨I2, R1, m, L, d, ?_, p1, q2, q5, fun q i a b e => ?_, p7⟩
  · unfold f_X9_heldAt
    rw [hX.2.2.1, e1, pr_b2, e2, pr_sb, pr_rd hh (by omega), pr_sb, q5 h hh]
  · rw [q6 q i b (fun z => a z.1), p6 q i a b e]
