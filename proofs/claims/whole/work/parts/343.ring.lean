/-! balance: both sides -/
def zI (z : Int) : Int32 := Int32.ofInt z
theorem zI_a (a b : Int) : zI a + zI b = zI (a + b) := (Int32.ofInt_add a b).symm
theorem zI_s (a b : Int) : zI a - zI b = zI (a - b) := (Int32.ofInt_sub a b).symm
theorem zI_0 {z : Int} (h1 : -1000 ≤ z) (h2 : z ≤ 1000) : zI z = 0 ↔ z = 0 := by
  unfold zI
  rw [fa_eq, fb_ofI (by omega) (by omega), pr_z]
def rg_off (sv : pv_V) (b x : Nat) : Nat → Int := fb_si (rg_f sv b x)
theorem rg_offB {sv : pv_V} {b x : Nat} : ∀ k : Nat, -(k : Int) ≤ rg_off sv b x k ∧ rg_off sv b x k ≤ (k : Int) := by
  intro k
  induction k with
  | zero => exact ⟨by simp [rg_off, fb_si], by simp [rg_off, fb_si]⟩
  | succ k ih =>
    have e : rg_off sv b x (k + 1) = rg_off sv b x k + rg_f sv b x k := rfl
    have f : -1 ≤ rg_f sv b x k ∧ rg_f sv b x k ≤ 1 := by
      unfold rg_f
      repeat' split
      all_goals omega
    rw [e]
    omega
def rg_bal (sv : pv_V) (s b : Nat) : Prop := ∀ x, x < 10 → rg_off sv b x s = 0
section RG
variable {n c s : Nat} {oc os : Nat → Nat} {sv cv : pv_V} {S : rk_Sh} {I : rk_I} {R : rk_R}
theorem rc_fill {I : rk_I} : f_J7_fill_53178_17 I 0 = some (fl_F I 17 0 10) := by
  unfold f_J7_fill_53178_17
  have z : ((0 : Int32), I) = (fun k => (nI k, fl_F I 17 0 k)) 0 := by
    show _ = (nI 0, fl_F I 17 0 0)
    rw [fl_zero]
    rfl
  rw [z, pr_run (f := fun a9 : Int32 × rk_I => f_J7_fill_53178_17_l5 a9.2 0 a9.1) (fun k => (nI k, fl_F I 17 0 k)) 10 (b := (nI 10, fl_F I 17 0 10))]
  · rfl
  · intro k hk
    show f_J7_fill_53178_17_l5 (fl_F I 17 0 k) 0 (nI k) = _
    unfold f_J7_fill_53178_17_l5
    have e := fl_step (I := I) (o := 17) (a := 0) (k := k)
    rw [Nat.zero_add] at e
    rw [if_neg (show ¬ (10 : Int32) ≤ nI k from nI_ge (b := 10) hk (by omega)), pr_wr hk (by omega), pr_sb, nI_1, e]
  · show f_J7_fill_53178_17_l5 (fl_F I 17 0 10) 0 (nI 10) = _
    unfold f_J7_fill_53178_17_l5
    rw [if_pos (by decide)]
theorem rc_bal (hB : pv_B c s sv cv) (hX : pv_X n c s oc os sv cv S I R) (h16 : I 16 2 = nI s) (hR : R 16 1 = some 2) {b : Nat} (hb31 : b < 2 ^ 31) : ∃ I', ((rg_bal sv s b ∧ f_X4_allSellAsTheyBuy S I R (nI b) = some (1, I')) ∨ (¬ rg_bal sv s b ∧ f_X4_allSellAsTheyBuy S I R (nI b) = some (0, I'))) ∧ ∀ q, q ≠ 17 → I' q = I q := by
  obtain ⟨hO, x1, x2, x3, x4⟩ := hX
  have hs := hB.2.1
  have ckr : rk_ckR R 16 1 2 = some () := pr_ckR hR
  obtain ⟨⟨z, I1⟩, e1, p1, p2⟩ := pr_for0 (f := fun a9 : Int32 × rk_I => f_X4_allSellAsTheyBuy_l10 S a9.2 R (nI b) a9.1) (fun k a => a.1 = nI k ∧ (∀ x, x < 10 → a.2 17 x = zI (rg_off sv b x k)) ∧ ∀ q, q ≠ 17 → a.2 q = I q) s (fun a => (∀ x, x < 10 → a.2 17 x = zI (rg_off sv b x s)) ∧ ∀ q, q ≠ 17 → a.2 q = I q) (0, fl_F I 17 0 10) ⟨rfl, fun x hx => by
      show fl_F I 17 0 10 17 x = _
      unfold fl_F
      rw [if_pos (by omega)]
      rfl, fun q hq => by
      show fl_F I 17 0 10 q = _
      funext i
      unfold fl_F
      rw [if_neg (fun z => hq z.1)]⟩ (by
      rintro k ⟨y, K⟩ hk ⟨hy, g1, g2⟩
      left
      have hy : y = nI k := hy
      subst hy
      have g1 : ∀ x, x < 10 → K 17 x = zI (rg_off sv b x k) := g1
      have g2 : ∀ q, q ≠ 17 → K q = I q := g2
      have c0 : ¬ nI s ≤ nI k := nI_ge hk (by omega)
      obtain ⟨r0, r1, -, -, r2, r3, -⟩ := x3 k hk
      have hok := hO.2.1 k hk
      have hbb := hB.2.2.1 k hk
      have hh := rb_has hb31 (by omega : k < 32)
      have es : ∀ x, rg_off sv b x (k + 1) = rg_off sv b x k + rg_f sv b x k := fun x => rfl
      cases hbk : b.testBit k with
      | false =>
        rw [hbk] at hh
        have hh : f_X4_has (nI b) (nI k) = some 0 := hh
        refine ⟨(nI (k + 1), K), ?_, rfl, fun x hx => ?_, g2⟩
        · show f_X4_allSellAsTheyBuy_l10 S K R (nI b) (nI k) = _
          unfold f_X4_allSellAsTheyBuy_l10
          rw [g2 16 (by omega), h16, if_neg c0, hh, pr_sb, if_pos rfl, nI_1]
        · show K 17 x = _
          have f0 : rg_f sv b x k = 0 := by
            unfold rg_f
            rw [hbk]
            rfl
          rw [es, f0, Int.add_zero]
          exact g1 x hx
      | true =>
        rw [hbk] at hh
        have hh : f_X4_has (nI b) (nI k) = some 1 := hh
        have o2 : K (os k) 2 = nI (sv k 2) := by rw [g2 _ (by omega)]; exact r2
        have o3 : K (os k) 3 = nI (sv k 3) := by rw [g2 _ (by omega)]; exact r3
        refine ⟨(nI (k + 1), rk_ui (rk_ui K 17 (sv k 2) (zI (rg_off sv b (sv k 2) k + 1))) 17 (sv k 3) (zI (rg_off sv b (sv k 3) k - 1))), ?_, rfl, fun x hx => ?_, fun q hq => ?_⟩
        · show f_X4_allSellAsTheyBuy_l10 S K R (nI b) (nI k) = _
          unfold f_X4_allSellAsTheyBuy_l10
          rw [g2 16 (by omega), h16, if_neg c0, hh, pr_sb, if_neg (by decide), ckr, pr_sb, pr_rdR (by omega) (by omega), r0, pr_sb, pr_dr r1, pr_sb, o2, pr_rd hbb.2.2.1 (by omega), g1 _ hbb.2.2.1, pr_sb, show (1 : Int32) = zI 1 from rfl, zI_a, pr_wr hbb.2.2.1 (by omega), pr_sb, pr_sb, ui_o (by omega), o3, pr_rd hbb.2.2.2.1 (by omega), ui_n (Ne.symm hbb.2.2.2.2.1), g1 _ hbb.2.2.2.1, pr_sb, zI_s, pr_wr hbb.2.2.2.1 (by omega), pr_sb, show nI k + zI 1 = nI (k + 1) from nI_1 k]
        · show rk_ui (rk_ui K 17 (sv k 2) (zI (rg_off sv b (sv k 2) k + 1))) 17 (sv k 3) (zI (rg_off sv b (sv k 3) k - 1)) 17 x = _
          rw [es]
          have ff : rg_f sv b x k = (if sv k 2 = x then 1 else 0) - (if sv k 3 = x then 1 else 0) := by
            unfold rg_f
            rw [hbk]
            rfl
          rw [ff]
          by_cases h3 : x = sv k 3
          · subst h3
            rw [ui_s, if_neg hbb.2.2.2.2.1, if_pos rfl]
            congr 1
          · rw [ui_n h3, if_neg (Ne.symm h3)]
            by_cases h2 : x = sv k 2
            · subst h2
              rw [ui_s, if_pos rfl]
              congr 1
            · rw [ui_n h2, if_neg (Ne.symm h2), g1 x hx]
              congr 1
              omega
        · show rk_ui (rk_ui K 17 _ _) 17 (sv k 3) (zI (rg_off sv b (sv k 3) k - 1)) q = _
          rw [ui_o hq, ui_o hq]
          exact g2 q hq) (by
      rintro ⟨y, K⟩ ⟨hy, g1, g2⟩
      have hy : y = nI s := hy
      subst hy
      have g2 : ∀ q, q ≠ 17 → K q = I q := g2
      refine ⟨(nI s, K), ?_, g1, g2⟩
      show f_X4_allSellAsTheyBuy_l10 S K R (nI b) (nI s) = _
      unfold f_X4_allSellAsTheyBuy_l10
      rw [g2 16 (by omega), h16, if_pos (nI_le (Nat.le_refl _) (by omega))])
  have p1 : ∀ x, x < 10 → I1 17 x = zI (rg_off sv b x s) := p1
  have p2 : ∀ q, q ≠ 17 → I1 q = I q := p2
  obtain ⟨w, e2, hw⟩ := pr_for0 (f := fun a9 : Int32 => f_X4_allSellAsTheyBuy_l71 S I1 R a9) (fun k a => a = nI k ∧ ∀ x, x < k → rg_off sv b x s = 0) 10 (fun a => (rg_bal sv s b ∧ ∃ y, a = .inl y) ∨ (¬ rg_bal sv s b ∧ a = .inr (0, I1))) 0 ⟨rfl, fun x hx => absurd hx (Nat.not_lt_zero x)⟩ (by
      rintro k y hk ⟨hy, g1⟩
      subst hy
      have hB' := rg_offB (sv := sv) (b := b) (x := k) s
      have c0 : ¬ (10 : Int32) ≤ nI k := nI_ge (b := 10) hk (by omega)
      by_cases h0 : rg_off sv b k s = 0
      · left
        refine ⟨nI (k + 1), ?_, rfl, fun x hx => ?_⟩
        · show f_X4_allSellAsTheyBuy_l71 S I1 R (nI k) = _
          unfold f_X4_allSellAsTheyBuy_l71
          rw [if_neg c0, pr_rd hk (by omega), p1 k hk, pr_sb, if_pos ((zI_0 (by omega) (by omega)).mpr h0), nI_1]
        · by_cases hxk : x = k
          · rw [hxk]; exact h0
          · exact g1 x (by omega)
      · right
        refine ⟨.inr (0, I1), ?_, Or.inr ⟨fun h => h0 (h k hk), rfl⟩⟩
        show f_X4_allSellAsTheyBuy_l71 S I1 R (nI k) = _
        unfold f_X4_allSellAsTheyBuy_l71
        rw [if_neg c0, pr_rd hk (by omega), p1 k hk, pr_sb, if_neg (fun z => h0 ((zI_0 (by omega) (by omega)).mp z))]) (by
      rintro y ⟨hy, g1⟩
      subst hy
      refine ⟨.inl (nI 10), ?_, Or.inl ⟨g1, _, rfl⟩⟩
      show f_X4_allSellAsTheyBuy_l71 S I1 R (nI 10) = _
      unfold f_X4_allSellAsTheyBuy_l71
      rw [if_pos (by decide)])
  refine ⟨I1, ?_, p2⟩
  unfold f_X4_allSellAsTheyBuy
  rw [rc_fill, pr_sb, e1, pr_b2, e2]
  rcases hw with ⟨h1, y, rfl⟩ | ⟨h1, rfl⟩
  · exact Or.inl ⟨h1, rfl⟩
  · exact Or.inr ⟨h1, rfl⟩
theorem rm_off (hB : pv_B c s sv cv) (hY : pv_Y c s sv cv I) {b x : Nat} (u : Int32) (hx : x < 10) (hb31 : b < 2 ^ 31) : rk_while (fun a9 : Int32 × Int32 => f_X10_isRing_l109 I (nI b) u (nI x) a9.1 a9.2) (0, 0) = some (zI (rg_off sv b x s), nI s) := by
  obtain ⟨y1, y2, y3, y4⟩ := hY
  have hs := hB.2.1
  refine pr_run (f := fun a9 : Int32 × Int32 => f_X10_isRing_l109 I (nI b) u (nI x) a9.1 a9.2) (fun k => (zI (rg_off sv b x k), nI k)) s ?_ ?_
  · intro k hk
    show f_X10_isRing_l109 I (nI b) u (nI x) (zI (rg_off sv b x k)) (nI k) = _
    obtain ⟨-, -, r2, r3, -⟩ := y3 k hk
    have hbb := hB.2.2.1 k hk
    have es : rg_off sv b x (k + 1) = rg_off sv b x k + rg_f sv b x k := rfl
    unfold f_X10_isRing_l109 f_X10_isRing_j150
    rw [y2, if_neg (nI_ge hk (by omega)), rb_sh hb31 (by omega), pr_rd (by omega) (by omega), pr_rd (by omega) (by omega), r2, r3, es]
    simp only [pr_sb, nI_1]
    cases hbk : b.testBit k with
    | false =>
      have f0 : rg_f sv b x k = 0 := by
        unfold rg_f
        rw [hbk]
        rfl
      rw [if_pos ((rb_t hb31).mpr hbk), f0, Int.add_zero, Int32.add_zero]
    | true =>
      have hnb : ¬ (nI (b / 2 ^ k) &&& 1 = 0) := fun w => by rw [(rb_t hb31).mp w] at hbk; cases hbk
      have ff : rg_f sv b x k = (if sv k 2 = x then 1 else 0) - (if sv k 3 = x then 1 else 0) := by
        unfold rg_f
        rw [hbk]
        rfl
      rw [if_neg hnb, ff, show (0 : Int32) = zI 0 from rfl, show (1 : Int32) = zI 1 from rfl, zI_s, zI_s, zI_s, zI_s, zI_a, zI_a, zI_a, zI_a]
      by_cases h2 : sv k 2 = x
      · have h3 : ¬ sv k 3 = x := fun z => hbb.2.2.2.2.1 (by omega)
        rw [if_pos (by rw [h2]), if_pos h2, if_neg (fun z => h3 ((nI_eq (by omega) (by omega)).mp z)), if_neg h3]
      · rw [if_neg (fun z => h2 ((nI_eq (by omega) (by omega)).mp z)), if_neg h2]
        by_cases h3 : sv k 3 = x
        · rw [if_pos (by rw [h3]), if_pos h3]
        · rw [if_neg (fun z => h3 ((nI_eq (by omega) (by omega)).mp z)), if_neg h3]
  · show f_X10_isRing_l109 I (nI b) u (nI x) (zI (rg_off sv b x s)) (nI s) = _
    unfold f_X10_isRing_l109
    rw [y2, if_pos (nI_le (Nat.le_refl _) (by omega))]
end RG
