/-! THE HOST'S SALES: each side by itself, over one rule of what may come -/
def sl_ok (c : Nat) (a b d e f : Int32) : Prop := f_X9_isKind a = some 1 ∧ ¬ b < 0 ∧ (∃ g, g < c ∧ b / 100 = nI g) ∧ ¬ rk_md (b / 10) 10 = rk_md b 10 ∧ f_X9_isAmount d = some 1 ∧ f_X10_in e.toInt64 0 999 = some 1 ∧ f_X9_isHour f = some 1
/-- the view with one sale more -/
def sl_v (sv : pv_V) (s : Nat) (a b d e f : Int32) : pv_V := fun k i => if k = s then (if i = 0 then a.toNatClampNeg else if i = 1 then b.toNatClampNeg / 100 else if i = 2 then b.toNatClampNeg / 10 % 10 else if i = 3 then b.toNatClampNeg % 10 else if i = 4 then d.toNatClampNeg else if i = 5 then e.toNatClampNeg else if i = 6 then f.toNatClampNeg else 0) else sv k i
theorem sl_num {c : Nat} (hc : c ≤ 4) {a b d e f : Int32} (h : sl_ok c a b d e f) : ∃ vk w va vp vh, a = nI vk ∧ b = nI w ∧ d = nI va ∧ e = nI vp ∧ f = nI vh ∧ vk < 6 ∧ w < 2147483648 ∧ w / 100 < c ∧ w / 10 % 10 ≠ w % 10 ∧ 1 ≤ va ∧ va < 1000 ∧ vp < 1000 ∧ vh < 1000 := by
  obtain ⟨q1, q2, ⟨g, g1, g2⟩, q4, q5, q6, q7⟩ := h
  rcases pg_kind a with ⟨vk, k1, rfl, -, -⟩ | ⟨-, k3, -⟩
  · rcases pg_amount d with ⟨va, a1, a2, rfl, -, -⟩ | ⟨a3, -⟩
    · rcases pg_price e with ⟨vp, p1, rfl, -, -, -⟩ | ⟨p3, -⟩
      · rcases pg_hour f with ⟨vh, h1, rfl, -, -⟩ | ⟨-, h3, -⟩
        · obtain ⟨w, w1, rfl⟩ := nI_of q2
          have w1 : w < 2147483648 := by omega
          have d100 : nI w / 100 = nI (w / 100) := pr_dv (d := 100) w1 (by omega) (by omega)
          have d10 : nI w / 10 = nI (w / 10) := pr_dv (d := 10) w1 (by omega) (by omega)
          have md1 : rk_md (nI (w / 10)) 10 = nI (w / 10 % 10) := pr_md (d := 10) (by omega) (by omega) (by omega)
          have md2 : rk_md (nI w) 10 = nI (w % 10) := pr_md (d := 10) w1 (by omega) (by omega)
          rw [d100] at g2
          rw [d10, md1, md2] at q4
          have e1 : w / 100 = g := (nI_eq (by omega) (by omega)).mp g2
          exact ⟨vk, w, va, vp, vh, rfl, rfl, rfl, rfl, rfl, k1, w1, by omega, fun z => q4 (by rw [z]), a1, a2, p1, h1⟩
        · rw [h3] at q7; cases q7
      · rw [p3] at q6; cases q6
    · rw [a3] at q5; cases q5
  · rw [k3] at q1; cases q1
theorem sl_val {sv : pv_V} {s vk w va vp vh k : Nat} (hk : vk < 6) (hw : w < 2147483648) (ha : va < 1000) (hp : vp < 1000) (hh : vh < 1000) : (∀ i, k ≠ s → sl_v sv s (nI vk) (nI w) (nI va) (nI vp) (nI vh) k i = sv k i) ∧ sl_v sv s (nI vk) (nI w) (nI va) (nI vp) (nI vh) s 0 = vk ∧ sl_v sv s (nI vk) (nI w) (nI va) (nI vp) (nI vh) s 1 = w / 100 ∧ sl_v sv s (nI vk) (nI w) (nI va) (nI vp) (nI vh) s 2 = w / 10 % 10 ∧ sl_v sv s (nI vk) (nI w) (nI va) (nI vp) (nI vh) s 3 = w % 10 ∧ sl_v sv s (nI vk) (nI w) (nI va) (nI vp) (nI vh) s 4 = va ∧ sl_v sv s (nI vk) (nI w) (nI va) (nI vp) (nI vh) s 5 = vp ∧ sl_v sv s (nI vk) (nI w) (nI va) (nI vp) (nI vh) s 6 = vh ∧ sl_v sv s (nI vk) (nI w) (nI va) (nI vp) (nI vh) s 7 = 0 ∧ sl_v sv s (nI vk) (nI w) (nI va) (nI vp) (nI vh) s 8 = 0 := by
  refine ⟨fun i h => if_neg h, ?_, ?_, ?_, ?_, ?_, ?_, ?_, ?_, ?_⟩
  all_goals
    unfold sl_v
    rw [if_pos rfl]
  · rw [if_pos rfl, nI_clamp (by omega)]
  · rw [if_neg (by decide), if_pos rfl, nI_clamp (by omega)]
  · rw [if_neg (by decide), if_neg (by decide), if_pos rfl, nI_clamp (by omega)]
  · rw [if_neg (by decide), if_neg (by decide), if_neg (by decide), if_pos rfl, nI_clamp (by omega)]
  · rw [if_neg (by decide), if_neg (by decide), if_neg (by decide), if_neg (by decide), if_pos rfl, nI_clamp (by omega)]
  · rw [if_neg (by decide), if_neg (by decide), if_neg (by decide), if_neg (by decide), if_neg (by decide), if_pos rfl, nI_clamp (by omega)]
  · rw [if_neg (by decide), if_neg (by decide), if_neg (by decide), if_neg (by decide), if_neg (by decide), if_neg (by decide), if_pos rfl, nI_clamp (by omega)]
  · rw [if_neg (by decide), if_neg (by decide), if_neg (by decide), if_neg (by decide), if_neg (by decide), if_neg (by decide), if_neg (by decide)]
  · rw [if_neg (by decide), if_neg (by decide), if_neg (by decide), if_neg (by decide), if_neg (by decide), if_neg (by decide), if_neg (by decide)]
theorem sl_B {c s : Nat} {sv cv : pv_V} (h : pv_B c s sv cv) (hs : s < 24) {a b d e f : Int32} (hok : sl_ok c a b d e f) : pv_B c (s + 1) (sl_v sv s a b d e f) cv := by
  obtain ⟨vk, w, va, vp, vh, rfl, rfl, rfl, rfl, rfl, h1, h2, h3, h4, h5, h6, h7, h8⟩ := sl_num h.1 hok
  refine ⟨h.1, by omega, fun k hk => ?_, h.2.2.2⟩
  obtain ⟨v, v0, v1, v2, v3, v4, v5, v6, v7, v8⟩ := sl_val (sv := sv) (s := s) (k := k) h1 h2 h6 h7 h8
  by_cases hks : k = s
  · subst hks
    rw [v0, v1, v2, v3, v4, v5, v6, v7, v8]
    exact ⟨h1, h3, by omega, by omega, h4, h5, h6, h7, h8, by omega, by omega⟩
  · rw [v _ hks, v _ hks, v _ hks, v _ hks, v _ hks, v _ hks, v _ hks, v _ hks, v _ hks]
    exact h.2.2.1 k (by omega)
set_option maxHeartbeats 4000000 in
theorem cs_sale {n c s : Nat} {oc os : Nat → Nat} {sv cv : pv_V} {S : rk_Sh} {I : rk_I} {J : rk_J} {R : rk_R} (hL : rk_LC S R) (hn : 57 ≤ n) (hn2 : n < 800000) (hB : pv_B c s sv cv) (hX : pv_X n c s oc os sv cv S I R) (a b d e f : Int32) : (¬ sl_ok c a b d e f ∧ f_X9_sale n S I J R a b d e f = some (-2, n, S, I, J, R)) ∨ (sl_ok c a b d e f ∧ s = 24 ∧ f_X9_sale n S I J R a b d e f = some (-4, n, S, I, J, R)) ∨ (sl_ok c a b d e f ∧ s < 24 ∧ ∃ I1 J1 R1, f_X9_sale n S I J R a b d e f = some (nI s, n + 1, rk_sh S n 5 11, I1, J1, R1) ∧ pv_X (n + 1) c (s + 1) oc (fun k => if k = s then n else os k) (sl_v sv s a b d e f) cv (rk_sh S n 5 11) I1 R1 ∧ rk_LC (rk_sh S n 5 11) R1 ∧ (∀ q, q ≠ n → q ≠ 0 → I1 q = I q) ∧ (∀ i, i ≠ 3 → I1 0 i = I 0 i) ∧ ∀ q, q ≠ n → q ≠ 2 → R1 q = R q) := by
  have x1 := hX.2.1
  have x2 := hX.2.2.1
  have x4 := hX.2.2.2.2
  have hc := hB.1
  have hs := hB.2.1
  by_cases hok : sl_ok c a b d e f
  · right
    have hok' := hok
    obtain ⟨vk, w, va, vp, vh, rfl, rfl, rfl, rfl, rfl, k1, w1, hcg, heq, a1, a2, p1, h1⟩ := sl_num hc hok
    obtain ⟨q1, q2, -, -, q5, q6, q7⟩ := hok
    have d100 : nI w / 100 = nI (w / 100) := pr_dv (d := 100) w1 (by omega) (by omega)
    have d10 : nI w / 10 = nI (w / 10) := pr_dv (d := 10) w1 (by omega) (by omega)
    have md1 : rk_md (nI (w / 10)) 10 = nI (w / 10 % 10) := pr_md (d := 10) (by omega) (by omega) (by omega)
    have md2 : rk_md (nI w) 10 = nI (w % 10) := pr_md (d := 10) w1 (by omega) (by omega)
    have hb : 0 ≤ nI w := nI_pos' (by omega)
    have hne2 : ¬ nI (w / 10 % 10) = nI (w % 10) := fun z => heq ((nI_eq (by omega) (by omega)).mp z)
    have m24 : (24 : Int32).toInt = 24 := by decide
    have m999 : (999 : Int32).toInt = 999 := by decide
    have p4 : ¬ nI vp < 0 := nI_pos (by omega)
    have p5 : ¬ 999 < nI vp := by rw [fa_lt, m999, nI_toInt (by omega)]; omega
    have g3 : f_X9_cargoAt I R (nI (w / 100)) = some (some (oc (w / 100))) := by
      unfold f_X9_cargoAt
      rw [x1, if_neg (nI_pos (by omega)), if_neg (nI_ge hcg (by omega)), pr_rdR (by omega) (by omega), (x4 _ hcg).1]
      rfl
    by_cases hlt : s < 24
    · right
      refine ⟨hok', hlt, ?_⟩
      have r1 : I 0 3 < 24 := by rw [x2, fa_lt, nI_toInt (by omega), m24]; omega
      have t0 : rk_sh S n 5 11 (oc (w / 100)) = (0, 5) := by
        have := hX.1.1 _ hcg
        rw [sh_o (by omega)]; exact (x4 _ hcg).2.1
      obtain ⟨I1, R1, e0, e1, e2, e3, e4, e5, e6, e7, e8, e9, e10, e11⟩ := cs_init (I := I) (R := R) (n := n) (o := oc (w / 100)) (x0 := nI vk) (x2 := nI (w / 10 % 10)) (x3 := nI (w % 10)) (x4 := nI va) (x5 := nI vp) (x6 := nI vh)
      have l1 : rk_LC (rk_sh S n 5 11) R1 := LC_new hL (fun k hk => by rw [sh_o (by omega)]) (fun k hk _ _ _ => e10 k (by omega))
      have l2 : rk_LC (rk_sh S n 5 11) (rk_ur R1 2 s (some n)) := LC_new hL (fun k hk => by rw [sh_o (by omega)]) (fun k hk _ k2 _ => by rw [ur_o k2, e10 k (by omega)])
      have z3 : I1 0 3 = nI s := by rw [e1 0 (by omega)]; exact x2
      obtain ⟨v, v0, v1, v2, v3, v4, v5, v6, v7, v8⟩ := sl_val (sv := sv) (s := s) (k := s) k1 w1 a2 p1 h1
      refine ⟨rk_ui I1 0 3 (nI (s + 1)), rk_zj J n, rk_ur R1 2 s (some n), ?_, ⟨⟨fun k hk => ?_, fun k hk => ?_, hX.1.2.2.1, fun i j hi hj hij => ?_⟩, ?_, ui_s, fun k hk => ?_, fun k hk => ?_⟩, l2, fun q a b => ?_, fun i hi => ?_, fun q a b => ?_⟩
      · unfold f_X9_sale
        rw [d100, d10, md1, md2, if_pos hb, g3, pr_sb, q1, pr_sb, if_neg (by decide), pr_oc1, q5, pr_sb, if_neg (by decide), if_neg p4, if_neg p5, q7, pr_sb, if_neg (by decide), if_neg hne2, if_pos r1, pr_nck (by omega), pr_sb, pr_sb, pr_sb, pr_sb, pr_sb, e0, pr_b2, pr_ck sh_s, pr_sb, pr_ck t0, pr_sb, pr_layC l1, pr_sb, x2, pr_wrR hlt (by omega), pr_sb, pr_sb, z3, nI_1, ui_s, nI_pred]
      · have := hX.1.1 k hk; omega
      · by_cases hkc : k = s
        · simp only [hkc, if_true]; omega
        · simp only [hkc, if_false]; have := hX.1.2.1 k (by omega); omega
      · by_cases hic : i = s <;> by_cases hjc : j = s
        · omega
        · simp only [hic, hjc, if_true, if_false] at hij; have := hX.1.2.1 j (by omega); omega
        · simp only [hic, hjc, if_true, if_false] at hij; have := hX.1.2.1 i (by omega); omega
        · simp only [hic, hjc, if_false] at hij; exact hX.1.2.2.2 i j (by omega) (by omega) hij
      · rw [ui_n (by omega), e1 0 (by omega)]; exact x1
      · by_cases hkc : k = s
        · subst hkc
          simp only [if_true]
          rw [v0, v1, v2, v3, v4, v5, v6, v7, v8, ur_s, sh_s, ui_o (by omega : n ≠ 0), ur_o (by omega : n ≠ 2), e2, e3, e4, e5, e6, e7, e8, e9, e11]
          exact ⟨rfl, rfl, rfl, rfl, rfl, rfl, rfl, rfl, rfl, pr_m1, rfl⟩
        · have hob := hX.1.2.1 k (by omega)
          obtain ⟨v', -⟩ := sl_val (sv := sv) (s := s) (k := k) k1 w1 a2 p1 h1
          simp only [hkc, if_false]
          rw [v' _ hkc, v' _ hkc, v' _ hkc, v' _ hkc, v' _ hkc, v' _ hkc, v' _ hkc, v' _ hkc, v' _ hkc, ur_n hkc, e10 2 (by omega), ur_o (by omega : os k ≠ 2), e10 (os k) (by omega), sh_o (by omega), ui_o (by omega : os k ≠ 0), e1 (os k) (by omega)]
          exact hX.2.2.2.1 k (by omega)
      · have hob := hX.1.1 k hk
        rw [ur_o (by omega : 1 ≠ 2), e10 1 (by omega), ur_o (by omega : oc k ≠ 2), e10 (oc k) (by omega), sh_o (by omega), sh_o (by omega), sh_o (by omega), ui_o (by omega : oc k ≠ 0), ui_o (by omega : oc k + 1 ≠ 0), e1 (oc k) (by omega), e1 (oc k + 1) (by omega)]
        exact x4 k hk
      · rw [ui_o b, e1 q a]
      · rw [ui_n hi, e1 0 (by omega)]
      · rw [ur_o b, e10 q a]
    · left
      have r1 : ¬ I 0 3 < 24 := by rw [x2, fa_lt, nI_toInt (by omega), m24]; omega
      refine ⟨hok', by omega, ?_⟩
      unfold f_X9_sale
      rw [d100, d10, md1, md2, if_pos hb, g3, pr_sb, q1, pr_sb, if_neg (by decide), pr_oc1, q5, pr_sb, if_neg (by decide), if_neg p4, if_neg p5, q7, pr_sb, if_neg (by decide), if_neg hne2, if_neg r1]
  · left
    refine ⟨hok, ?_⟩
    unfold f_X9_sale
    by_cases hb : 0 ≤ b
    · rw [if_pos hb]
      have hbn : ¬ b < 0 := by rw [fa_lt, pr_z]; rw [fa_le, pr_z] at hb; omega
      rcases pg_kind a with ⟨vk, k1, rfl, k3, -⟩ | ⟨-, k3, -⟩
      · rcases pg_cargo (I' := rk_ui I 31 10 (nI c)) hc x1 (fun k hk => (x4 k hk).1) ui_s (b / 100) with ⟨vc, g1, g2, g3, -⟩ | ⟨g3, -⟩
        · rw [g3, pr_sb, k3, pr_sb, if_neg (by decide), pr_oc1]
          rcases pg_amount d with ⟨va, a1, a2, rfl, a3, -⟩ | ⟨a3, -⟩
          · rw [a3, pr_sb, if_neg (by decide)]
            rcases pg_price e with ⟨vp, p1, rfl, p3, p4, p5⟩ | ⟨p3, p4⟩
            · rw [if_neg p4, if_neg p5]
              rcases pg_hour f with ⟨vh, h1, rfl, h3, -⟩ | ⟨-, h3, -⟩
              · rw [h3, pr_sb, if_neg (by decide), if_pos]
                apply Classical.byContradiction
                intro hq
                exact hok ⟨k3, hbn, ⟨vc, g1, g2⟩, hq, a3, p3, h3⟩
              · rw [h3]; rfl
            · by_cases hh : e < 0
              · rw [if_pos hh]
              · rw [if_neg hh, if_pos (by rcases p4 with p | p; exact absurd p hh; exact p)]
          · rw [a3]; rfl
        · rw [g3, pr_sb, k3]; rfl
      · rcases pg_cargo (I' := rk_ui I 31 10 (nI c)) hc x1 (fun k hk => (x4 k hk).1) ui_s (b / 100) with ⟨vc, g1, g2, g3, -⟩ | ⟨g3, -⟩
        · rw [g3, pr_sb, k3]; rfl
        · rw [g3, pr_sb, k3]; rfl
    · rw [if_neg hb]
      rcases pg_kind a with ⟨vk, k1, rfl, k3, -⟩ | ⟨-, k3, -⟩
      · rw [k3]; rfl
      · rw [k3]; rfl
