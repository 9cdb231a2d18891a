/-! THE REFERENCE'S LAYS -/
def ly_P (L : Nat → Nat) (d j k : Nat) : Prop := ∃ i, j ≤ i ∧ i < d ∧ L i = k
/-- the row of what is still to pass: those of L from j on, below d -/
def ly_A (p : Nat → Nat) (s d : Nat) (L : Nat → Nat) (j : Nat) (I : rk_I) : Prop := ∀ k, k < s → (ly_P L d j k → I 48 k = nI (p k)) ∧ (¬ ly_P L d j k → I 48 k = -1)
theorem ly_ahead {sv : pv_V} {p : Nat → Nat} {s g m d j : Nat} {L : Nat → Nat} {I : rk_I} (hs : s ≤ 24) (hp : ∀ k, k < s → p k < 1001) (hL : lg_L sv p s g m L) (hd : d ≤ m) (h20 : I 31 20 = nI s) (hA : ly_A p s d L j I) : f_X10_ahead I = some (if j < d then nI (L j) else -1) := by
  obtain ⟨a1, a2, a3, a4⟩ := hL
  obtain ⟨⟨z, z2⟩, e1, h⟩ := pr_for0 (f := fun a9 : Int32 × Int32 => f_X10_ahead_l4 I a9.1 a9.2) (fun k a => a.2 = nI k ∧ ((a.1 = -1 ∧ ∀ q, q < k → ¬ ly_P L d j q) ∨ ∃ b, b < k ∧ a.1 = nI b ∧ ly_P L d j b ∧ ∀ q, q < k → ly_P L d j q → p b < p q ∨ (p b = p q ∧ b ≤ q))) s (fun a => (a.1 = -1 ∧ ∀ q, q < s → ¬ ly_P L d j q) ∨ ∃ b, b < s ∧ a.1 = nI b ∧ ly_P L d j b ∧ ∀ q, q < s → ly_P L d j q → p b < p q ∨ (p b = p q ∧ b ≤ q)) (-1, 0) ⟨rfl, Or.inl ⟨rfl, fun q hq => absurd hq (Nat.not_lt_zero q)⟩⟩ (by
      rintro k ⟨x, y⟩ hk ⟨hy, hx⟩
      left
      have hy : y = nI k := hy
      subst hy
      have c0 : ¬ nI s ≤ nI k := nI_ge hk (by omega)
      have hpk := hp k hk
      by_cases hP : ly_P L d j k
      · have v := (hA k hk).1 hP
        rcases hx with ⟨hx, h1⟩ | ⟨b, b1, hx, b2, b3⟩
        · have hx : x = -1 := hx
          subst hx
          refine ⟨(nI k, nI (k + 1)), ?_, rfl, Or.inr ⟨k, by omega, rfl, hP, fun q hq hPq => ?_⟩⟩
          · show f_X10_ahead_l4 I (-1) (nI k) = _
            unfold f_X10_ahead_l4
            rw [h20, if_neg c0, pr_rd (by omega) (by omega), v, pr_sb, if_neg (pr_n1 (by omega)), if_pos rfl, nI_1]
          · by_cases hqk : q = k
            · subst hqk; omega
            · exact absurd hPq (h1 q (by omega))
        · have hx : x = nI b := hx
          subst hx
          have vb := (hA b (by omega)).1 b2
          have hpb := hp b (by omega)
          by_cases hle : p b ≤ p k
          · refine ⟨(nI b, nI (k + 1)), ?_, rfl, Or.inr ⟨b, by omega, rfl, b2, fun q hq hPq => ?_⟩⟩
            · show f_X10_ahead_l4 I (nI b) (nI k) = _
              unfold f_X10_ahead_l4
              rw [h20, if_neg c0, pr_rd (by omega) (by omega), v, pr_sb, if_neg (pr_n1 (by omega)), if_neg (pr_n1 (by omega)), pr_sb, pr_rd (by omega) (by omega), vb, pr_sb, if_pos (nI_le hle (by omega)), nI_1]
            · by_cases hqk : q = k
              · subst hqk; omega
              · exact b3 q (by omega) hPq
          · refine ⟨(nI k, nI (k + 1)), ?_, rfl, Or.inr ⟨k, by omega, rfl, hP, fun q hq hPq => ?_⟩⟩
            · show f_X10_ahead_l4 I (nI b) (nI k) = _
              unfold f_X10_ahead_l4
              rw [h20, if_neg c0, pr_rd (by omega) (by omega), v, pr_sb, if_neg (pr_n1 (by omega)), if_neg (pr_n1 (by omega)), pr_sb, pr_rd (by omega) (by omega), vb, pr_sb, if_neg (nI_ge (by omega) (by omega)), nI_1]
            · by_cases hqk : q = k
              · subst hqk; omega
              · have := b3 q (by omega) hPq
                omega
      · have v := (hA k hk).2 hP
        refine ⟨(x, nI (k + 1)), ?_, rfl, ?_⟩
        · show f_X10_ahead_l4 I x (nI k) = _
          unfold f_X10_ahead_l4
          rw [h20, if_neg c0, pr_rd (by omega) (by omega), v, pr_sb, if_pos rfl, nI_1]
        · rcases hx with ⟨hx, h1⟩ | ⟨b, b1, hx, b2, b3⟩
          · refine Or.inl ⟨hx, fun q hq => ?_⟩
            by_cases hqk : q = k
            · subst hqk; exact hP
            · exact h1 q (by omega)
          · refine Or.inr ⟨b, by omega, hx, b2, fun q hq hPq => ?_⟩
            by_cases hqk : q = k
            · subst hqk; exact absurd hPq hP
            · exact b3 q (by omega) hPq) (by
      rintro ⟨x, y⟩ ⟨hy, hx⟩
      have hy : y = nI s := hy
      subst hy
      refine ⟨(x, nI s), ?_, hx⟩
      show f_X10_ahead_l4 I x (nI s) = _
      unfold f_X10_ahead_l4
      rw [h20, if_pos (nI_le (Nat.le_refl _) (by omega))])
  unfold f_X10_ahead
  rw [e1, pr_b2]
  by_cases hj : j < d
  · rw [if_pos hj]
    have hPj : ly_P L d j (L j) := ⟨j, Nat.le_refl _, hj, rfl⟩
    have hLj := (a3 j (by omega)).1
    rcases h with ⟨-, h1⟩ | ⟨b, b1, hz, ⟨i, i1, i2, i3⟩, b3⟩
    · exact absurd hPj (h1 _ hLj)
    · have hz : z = nI b := hz
      have hb := b3 (L j) hLj hPj
      by_cases hij : i = j
      · rw [hz, ← i3, hij]
      · have hlt := a2 j i (by omega) (by omega)
        rw [i3] at hlt
        unfold lg_lt at hlt
        omega
  · rw [if_neg hj]
    rcases h with ⟨hz, -⟩ | ⟨b, b1, hz, ⟨i, i1, i2, i3⟩, b3⟩
    · exact congrArg some hz
    · omega
theorem ly_lays {c s : Nat} {sv cv : pv_V} {I : rk_I} (hB : pv_B c s sv cv) (hY : pv_Y c s sv cv I) {g w m t d : Nat} {L : Nat → Nat} (hg : g < c) (hw : w < 2) (ht : t < 1000) (hL : lg_L sv (fun k => ps sv cv k w) s g m L) (hd : lg_d (fun k => ps sv cv k w) m L t d) : ∃ I', f_X10_lays I (nI g) (nI t) (nI w) = some I' ∧ (∀ x, x < 10 → I' 47 x = nI (lg_H sv L (lg_0 cv g) d x)) ∧ ∀ q, q ≠ 47 → q ≠ 48 → I' q = I q := by
  obtain ⟨y1, y2, y3, y4⟩ := hY
  have hs := hB.2.1
  have hc := hB.1
  have hm := hL.1
  have hgb := hB.2.2.2 g hg
  obtain ⟨v35, v36, -⟩ := y4 g hg
  -- first loop
  obtain ⟨⟨z1, I1⟩, e1, p1, p2⟩ := pr_for0 (f := fun a9 : Int32 × rk_I => f_X10_lays_l3 a9.2 (nI g) (nI t) (nI w) a9.1) (fun k a => a.1 = nI k ∧ (∀ x, x < k → a.2 47 x = nI (lg_0 cv g x)) ∧ ∀ q, q ≠ 47 → a.2 q = I q) 10 (fun b => (∀ x, x < 10 → b.2 47 x = nI (lg_0 cv g x)) ∧ ∀ q, q ≠ 47 → b.2 q = I q) (0, I) ⟨rfl, fun x hx => absurd hx (Nat.not_lt_zero x), fun _ _ => rfl⟩ (by
      rintro k ⟨x, K⟩ hk ⟨hx, g1, g2⟩
      left
      have hx : x = nI k := hx
      subst hx
      have g1 : ∀ x, x < k → K 47 x = nI (lg_0 cv g x) := g1
      have g2 : ∀ q, q ≠ 47 → K q = I q := g2
      refine ⟨(nI (k + 1), rk_ui K 47 k (nI (lg_0 cv g k))), ?_, rfl, fun x hx => ?_, fun q hq => ?_⟩
      · show f_X10_lays_l3 K (nI g) (nI t) (nI w) (nI k) = _
        unfold f_X10_lays_l3 lg_0
        rw [if_neg (show ¬ (10 : Int32) ≤ nI k from nI_ge (b := 10) hk (by omega)), pr_rd (by omega) (by omega), pr_rd (by omega) (by omega), g2 36 (by omega), g2 35 (by omega), v35, v36, pr_sb]
        by_cases h : k = cv g 1
        · rw [if_pos (by rw [h]), if_pos h, pr_sb, pr_wr (by omega) (by omega), pr_sb, nI_1]
        · rw [if_neg (fun z => h ((nI_eq (by omega) (by omega)).mp z)), if_neg h, pr_wr (by omega) (by omega), pr_sb, nI_1]
          rfl
      · show rk_ui K 47 k (nI (lg_0 cv g k)) 47 x = _
        by_cases h : x = k
        · rw [h, ui_s]
        · rw [ui_n h]
          exact g1 x (by omega)
      · show rk_ui K 47 k (nI (lg_0 cv g k)) q = _
        rw [ui_o hq]
        exact g2 q hq) (by
      rintro ⟨x, K⟩ ⟨hx, g1, g2⟩
      have hx : x = nI 10 := hx
      subst hx
      refine ⟨(nI 10, K), ?_, g1, g2⟩
      show f_X10_lays_l3 K (nI g) (nI t) (nI w) (nI 10) = _
      unfold f_X10_lays_l3
      rw [if_pos (by decide)])
  have p1 : ∀ x, x < 10 → I1 47 x = nI (lg_0 cv g x) := p1
  have p2 : ∀ q, q ≠ 47 → I1 q = I q := p2
  -- which pass by t
  have hP : ∀ k, k < s → (ly_P L d 0 k ↔ sv k 1 = g ∧ ps sv cv k w ≤ t) := fun k hk => by
    constructor
    · rintro ⟨i, -, i2, i3⟩
      have := hL.2.2.1 i (by have := hd.1; omega)
      rw [← i3]
      exact ⟨this.2, hd.2.1 i i2⟩
    · rintro ⟨k1, k2⟩
      obtain ⟨i, i1, i2⟩ := hL.2.2.2 k hk k1
      refine ⟨i, Nat.zero_le _, ?_, i2⟩
      rcases Nat.lt_or_ge i d with h | h
      · exact h
      · exfalso
        have h1 := hd.2.2 (by omega)
        have h1 : t < ps sv cv (L d) w := h1
        by_cases hid : i = d
        · rw [← hid, i2] at h1
          omega
        · have h2 := hL.2.1 d i (by omega) i1
          unfold lg_lt at h2
          simp only [i2] at h2
          omega
  obtain ⟨⟨z2, I2⟩, e2, p3, p4⟩ := pr_for0 (f := fun a9 : Int32 × rk_I => f_X10_lays_l47 a9.2 (nI g) (nI t) (nI w) a9.1) (fun k a => a.1 = nI k ∧ (∀ q, q < k → (ly_P L d 0 q → a.2 48 q = nI (ps sv cv q w)) ∧ (¬ ly_P L d 0 q → a.2 48 q = -1)) ∧ ∀ q, q ≠ 48 → a.2 q = I1 q) s (fun b => ly_A (fun k => ps sv cv k w) s d L 0 b.2 ∧ ∀ q, q ≠ 48 → b.2 q = I1 q) (0, I1) ⟨rfl, fun x hx => absurd hx (Nat.not_lt_zero x), fun _ _ => rfl⟩ (by
      rintro k ⟨x, K⟩ hk ⟨hx, g1, g2⟩
      left
      have hx : x = nI k := hx
      subst hx
      have g1 : ∀ q, q < k → (ly_P L d 0 q → K 48 q = nI (ps sv cv q w)) ∧ (¬ ly_P L d 0 q → K 48 q = -1) := g1
      have g2 : ∀ q, q ≠ 48 → K q = I1 q := g2
      have kq : ∀ q, q ≠ 47 → q ≠ 48 → K q = I q := fun q a b => (g2 q b).trans (p2 q a)
      have k3 : pv_MS s sv K := fun q hq => by
        rw [kq 38 (by omega) (by omega), kq 39 (by omega) (by omega), kq 40 (by omega) (by omega), kq 41 (by omega) (by omega), kq 42 (by omega) (by omega), kq 43 (by omega) (by omega), kq 44 (by omega) (by omega), kq 45 (by omega) (by omega), kq 46 (by omega) (by omega)]
        exact y3 q hq
      have k4 : pv_MC c cv K := fun q hq => by
        rw [kq 35 (by omega) (by omega), kq 36 (by omega) (by omega), kq 37 (by omega) (by omega)]
        exact y4 q hq
      have hpp := pm_P hB k3 k4 hk hw
      have hpb := ps_B hB hk w
      have c0 : ¬ nI s ≤ nI k := nI_ge hk (by omega)
      have hcg := (hB.2.2.1 k hk).2.1
      have fin : ∀ V : Int32, ((ly_P L d 0 k → V = nI (ps sv cv k w)) ∧ (¬ ly_P L d 0 k → V = -1)) → f_X10_lays_l47 K (nI g) (nI t) (nI w) (nI k) = some (.inl (nI (k + 1), rk_ui K 48 k V)) → ∃ a', f_X10_lays_l47 K (nI g) (nI t) (nI w) (nI k) = some (.inl a') ∧ a'.1 = nI (k + 1) ∧ (∀ q, q < k + 1 → (ly_P L d 0 q → a'.2 48 q = nI (ps sv cv q w)) ∧ (¬ ly_P L d 0 q → a'.2 48 q = -1)) ∧ ∀ q, q ≠ 48 → a'.2 q = I1 q := fun V hV he => by
        refine ⟨_, he, rfl, fun q hq => ?_, fun q hq => ?_⟩
        · show (ly_P L d 0 q → rk_ui K 48 k V 48 q = _) ∧ (¬ ly_P L d 0 q → rk_ui K 48 k V 48 q = _)
          by_cases h : q = k
          · subst h
            rw [ui_s]
            exact hV
          · rw [ui_n h]
            exact g1 q (by omega)
        · show rk_ui K 48 k V q = _
          rw [ui_o hq]
          exact g2 q hq
      by_cases hkg : sv k 1 = g
      · by_cases hpt : ps sv cv k w ≤ t
        · refine fin (nI (ps sv cv k w)) ⟨fun _ => rfl, fun z => absurd ((hP k hk).mpr ⟨hkg, hpt⟩) z⟩ ?_
          unfold f_X10_lays_l47 f_X10_lays_j80
          rw [kq 31 (by omega) (by omega), y2, if_neg c0, pr_rd (by omega) (by omega), (k3 k hk).2.1, pr_sb, if_pos (by rw [hkg]), hpp, pr_sb, if_neg (nI_nlt (by omega) (by omega)), if_neg (by rw [pr_e1000 (by omega)]; omega), pr_wr (by omega) (by omega), pr_sb, nI_1]
        · refine fin (-1) ⟨fun z => absurd ((hP k hk).mp z).2 hpt, fun _ => rfl⟩ ?_
          unfold f_X10_lays_l47 f_X10_lays_j80
          rw [kq 31 (by omega) (by omega), y2, if_neg c0, pr_rd (by omega) (by omega), (k3 k hk).2.1, pr_sb, if_pos (by rw [hkg]), hpp, pr_sb, if_pos (nI_lt (by omega) (by omega)), pr_wr (by omega) (by omega), pr_sb, nI_1]
      · refine fin (-1) ⟨fun z => absurd ((hP k hk).mp z).1 hkg, fun _ => rfl⟩ ?_
        unfold f_X10_lays_l47 f_X10_lays_j80
        rw [kq 31 (by omega) (by omega), y2, if_neg c0, pr_rd (by omega) (by omega), (k3 k hk).2.1, pr_sb, if_neg (fun z => hkg ((nI_eq (by omega) (by omega)).mp z)), if_pos (show nI t < 1000 from nI_lt (b := 1000) ht (by omega)), pr_wr (by omega) (by omega), pr_sb, nI_1]) (by
      rintro ⟨x, K⟩ ⟨hx, g1, g2⟩
      have hx : x = nI s := hx
      subst hx
      have g2 : ∀ q, q ≠ 48 → K q = I1 q := g2
      refine ⟨(nI s, K), ?_, g1, g2⟩
      show f_X10_lays_l47 K (nI g) (nI t) (nI w) (nI s) = _
      unfold f_X10_lays_l47
      rw [g2 31 (by omega), p2 31 (by omega), y2, if_pos (nI_le (Nat.le_refl _) (by omega))])
  have p3 : ly_A (fun k => ps sv cv k w) s d L 0 I2 := p3
  have p4 : ∀ q, q ≠ 48 → I2 q = I1 q := p4
  have q2 : ∀ q, q ≠ 47 → q ≠ 48 → I2 q = I q := fun q a b => (p4 q b).trans (p2 q a)
  have hp := fun k hk => ps_B hB (k := k) hk w
  have a0 := ly_ahead (p := fun k => ps sv cv k w) (j := 0) hs hp hL hd.1 (by rw [q2 31 (by omega) (by omega)]; exact y2) p3
  obtain ⟨⟨z3, I3⟩, e3, p5, p6⟩ := pr_for0 (f := fun a9 : Int32 × rk_I => f_X10_lays_l121 a9.2 a9.1) (fun j a => a.1 = (if j < d then nI (L j) else -1) ∧ ly_A (fun k => ps sv cv k w) s d L j a.2 ∧ (∀ x, x < 10 → a.2 47 x = nI (lg_H sv L (lg_0 cv g) j x)) ∧ ∀ q, q ≠ 47 → q ≠ 48 → a.2 q = I q) d (fun b => (∀ x, x < 10 → b.2 47 x = nI (lg_H sv L (lg_0 cv g) d x)) ∧ ∀ q, q ≠ 47 → q ≠ 48 → b.2 q = I q) ((if 0 < d then nI (L 0) else -1), I2) ⟨rfl, p3, fun x hx => by
      show I2 47 x = _
      rw [p4 47 (by omega)]
      exact p1 x hx, q2⟩ (by
      rintro j ⟨x, K⟩ hj ⟨hx, g1, g2, g3⟩
      left
      have hx : x = (if j < d then nI (L j) else -1) := hx
      rw [if_pos hj] at hx
      subst hx
      have g1 : ly_A (fun k => ps sv cv k w) s d L j K := g1
      have g2 : ∀ x, x < 10 → K 47 x = nI (lg_H sv L (lg_0 cv g) j x) := g2
      have g3 : ∀ q, q ≠ 47 → q ≠ 48 → K q = I q := g3
      have hjm : j < m := by have := hd.1; omega
      have hLj := hL.2.2.1 j hjm
      have hb := hB.2.2.1 (L j) hLj.1
      have hH := lg_Hb hB hL hg j (by omega)
      obtain ⟨-, -, r2, r3, r4, -⟩ := y3 (L j) hLj.1
      have a1 := g2 (sv (L j) 2) hb.2.2.1
      have a2 := g2 (sv (L j) 3) hb.2.2.2.1
      have b1 := hH (sv (L j) 2)
      have b2 := hH (sv (L j) 3)
      have b3 := hL.1
      let K2 : rk_I := rk_ui (rk_ui (rk_ui K 47 (sv (L j) 2) (nI (lg_H sv L (lg_0 cv g) j (sv (L j) 2) - min (sv (L j) 4) (lg_H sv L (lg_0 cv g) j (sv (L j) 2))))) 47 (sv (L j) 3) (nI (lg_H sv L (lg_0 cv g) j (sv (L j) 3) + min (sv (L j) 4) (lg_H sv L (lg_0 cv g) j (sv (L j) 2))))) 48 (L j) (-1)
      have k2 : ∀ q, q ≠ 47 → q ≠ 48 → K2 q = I q := fun q a b => by
        show rk_ui (rk_ui (rk_ui K 47 _ _) 47 _ _) 48 _ _ q = _
        rw [ui_o b, ui_o a, ui_o a]
        exact g3 q a b
      have kA : ly_A (fun k => ps sv cv k w) s d L (j + 1) K2 := fun q hq => by
        have e48 : q ≠ L j → K2 48 q = K 48 q := fun h => by
          show rk_ui (rk_ui (rk_ui K 47 _ _) 47 _ _) 48 (L j) _ 48 q = _
          rw [ui_n h, ui_o (by omega), ui_o (by omega)]
        by_cases h : q = L j
        · subst h
          have e : K2 48 (L j) = -1 := by
            show rk_ui (rk_ui (rk_ui K 47 _ _) 47 _ _) 48 (L j) _ 48 (L j) = _
            rw [ui_s]
          refine ⟨fun ⟨i, i1, i2, i3⟩ => ?_, fun _ => e⟩
          exfalso
          have hl := hL.2.1 j i (by omega) (by have := hd.1; omega)
          rw [i3] at hl
          unfold lg_lt at hl
          omega
        · rw [e48 h]
          have iff : ly_P L d (j + 1) q ↔ ly_P L d j q := by
            constructor
            · rintro ⟨i, i1, i2, i3⟩
              exact ⟨i, by omega, i2, i3⟩
            · rintro ⟨i, i1, i2, i3⟩
              refine ⟨i, ?_, i2, i3⟩
              have : i ≠ j := fun e => h (by rw [← i3, e])
              omega
          rw [iff]
          exact g1 q hq
      have a3 := ly_ahead (p := fun k => ps sv cv k w) (j := j + 1) hs hp hL hd.1 (by rw [k2 31 (by omega) (by omega)]; exact y2) kA
      refine ⟨((if j + 1 < d then nI (L (j + 1)) else -1), K2), ?_, rfl, kA, fun x hx => ?_, k2⟩
      · show f_X10_lays_l121 K (nI (L j)) = _
        unfold f_X10_lays_l121
        have c1 : ¬ nI (L j) = -1 := pr_n1 (by omega)
        have tl : f_X10_lays_j171 K (nI (L j)) (nI (min (sv (L j) 4) (lg_H sv L (lg_0 cv g) j (sv (L j) 2)))) = some (.inl ((if j + 1 < d then nI (L (j + 1)) else -1), K2)) := by
          unfold f_X10_lays_j171
          rw [pr_rd (by omega) (by omega), g3 40 (by omega) (by omega), r2, pr_sb, pr_rd hb.2.2.1 (by omega), a1, pr_sb, pk_sub (by omega), pr_wr hb.2.2.1 (by omega), pr_sb, pr_rd (by omega) (by omega), ui_o (by omega), g3 41 (by omega) (by omega), r3, pr_sb, pr_rd hb.2.2.2.1 (by omega), ui_n (Ne.symm hb.2.2.2.2.1), a2, pr_sb, nI_add, pr_wr hb.2.2.2.1 (by omega), pr_sb, pr_wr (by omega) (by omega), pr_sb]
          have : f_X10_ahead K2 = some (if j + 1 < d then nI (L (j + 1)) else -1) := a3
          rw [show rk_ui (rk_ui (rk_ui K 47 (sv (L j) 2) (nI (lg_H sv L (lg_0 cv g) j (sv (L j) 2) - min (sv (L j) 4) (lg_H sv L (lg_0 cv g) j (sv (L j) 2))))) 47 (sv (L j) 3) (nI (lg_H sv L (lg_0 cv g) j (sv (L j) 3) + min (sv (L j) 4) (lg_H sv L (lg_0 cv g) j (sv (L j) 2))))) 48 (L j) (-1) = K2 from rfl, this]
          rfl
        rw [if_neg c1, pr_rd (by omega) (by omega), pr_rd (by omega) (by omega), g3 42 (by omega) (by omega), g3 40 (by omega) (by omega), r4, r2]
        simp only [pr_sb]
        rw [pr_rd hb.2.2.1 (by omega), a1]
        simp only [pr_sb]
        by_cases hle : lg_H sv L (lg_0 cv g) j (sv (L j) 2) ≤ sv (L j) 4
        · rw [if_pos (nI_le hle (by omega))]
          rw [Nat.min_eq_right hle] at tl
          exact tl
        · rw [if_neg (nI_ge (by omega) (by omega))]
          rw [Nat.min_eq_left (by omega)] at tl
          exact tl
      · show rk_ui (rk_ui (rk_ui K 47 _ _) 47 _ _) 48 (L j) (-1) 47 x = nI (lg_t sv (lg_H sv L (lg_0 cv g) j) (L j) x)
        rw [ui_o (by omega)]
        unfold lg_t
        by_cases h3' : x = sv (L j) 3
        · rw [if_pos h3', h3', ui_s]
        · rw [if_neg h3', ui_n h3']
          by_cases h2' : x = sv (L j) 2
          · rw [if_pos h2', h2', ui_s]
          · rw [if_neg h2', ui_n h2']
            exact g2 x hx) (by
      rintro ⟨x, K⟩ ⟨hx, g1, g2, g3⟩
      have hx : x = (if d < d then nI (L d) else -1) := hx
      rw [if_neg (Nat.lt_irrefl d)] at hx
      subst hx
      refine ⟨(-1, K), ?_, g2, g3⟩
      show f_X10_lays_l121 K (-1) = _
      unfold f_X10_lays_l121
      rw [if_pos rfl])
  refine ⟨I3, ?_, p5, p6⟩
  unfold f_X10_lays
  rw [e1, pr_b2, e2, pr_b2, a0, pr_sb, e3, pr_b2]
