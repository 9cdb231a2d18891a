section RG
variable {n c s : Nat} {oc os : Nat → Nat} {sv cv : pv_V} {S : rk_Sh} {I : rk_I} {R : rk_R}
theorem rb_or0 (x : Int32) : x ||| 0 = x := by
  apply Int32.toBitVec_inj.mp
  rw [Int32.toBitVec_or]
  exact BitVec.or_zero
theorem rc_reach (hB : pv_B c s sv cv) (hX : pv_X n c s oc os sv cv S I R) (h16 : I 16 2 = nI s) (hR : R 16 1 = some 2) {b : Nat} (hb31 : b < 2 ^ 31) : f_X4_handsReached S I R (nI b) = some (nI (rr_R sv b s 10)) := by
  obtain ⟨hO, x1, x2, x3, x4⟩ := hX
  have hs := hB.2.1
  have ckr : rk_ckR R 16 1 2 = some () := pr_ckR hR
  have inner : ∀ M, M < 2 ^ 10 → ∀ u : Int32, rk_while (fun a9 : Int32 × Int32 => f_X4_handsReached_l13 S I R (nI b) a9.1 u a9.2) (nI M, 0) = some (nI (rr_c sv b M s), nI s) := fun M hM u => by
    refine pr_run (f := fun a9 : Int32 × Int32 => f_X4_handsReached_l13 S I R (nI b) a9.1 u a9.2) (fun k => (nI (rr_c sv b M k), nI k)) s ?_ ?_
    · intro k hk
      show f_X4_handsReached_l13 S I R (nI b) (nI (rr_c sv b M k)) u (nI k) = _
      obtain ⟨r0, r1, -, -, r2, r3, -⟩ := x3 k hk
      have hbb := hB.2.2.1 k hk
      have hh := rb_has hb31 (by omega : k < 32)
      have hc10 := rr_c10 hB (b := b) hM k (by omega)
      have j54 : f_X4_handsReached_j54 S I R (nI b) (nI (rr_c sv b M k)) u (nI k) = some (.inl (nI (rr_c sv b M k ||| (2 ^ sv k 2 ||| 2 ^ sv k 3)), nI (k + 1))) := by
        unfold f_X4_handsReached_j54
        rw [ckr, pr_sb, pr_rdR (by omega) (by omega), r0, pr_sb, pr_dr r1, pr_sb, pr_sb, r2, r3, rb_or3 hbb.2.2.1 hbb.2.2.2.1, nI_1]
      have hu : rr_c sv b M (k + 1) = if b.testBit k && (rr_c sv b M k == 0 || (rr_c sv b M k).testBit (sv k 2)) then rr_c sv b M k ||| (2 ^ sv k 2 ||| 2 ^ sv k 3) else rr_c sv b M k := rfl
      unfold f_X4_handsReached_l13
      rw [h16, if_neg (nI_ge hk (by omega)), hh, pr_sb, hu]
      cases hbk : b.testBit k with
      | false =>
        simp only [Bool.false_eq_true, if_false, Bool.false_and]
        rw [if_pos trivial, nI_1]
      | true =>
        simp only [if_true, Bool.true_and]
        rw [if_neg (by decide)]
        by_cases h0 : rr_c sv b M k = 0
        · rw [if_pos (by rw [h0]; rfl), j54, h0]
          rfl
        · have hne : ¬ nI (rr_c sv b M k) = 0 := nI_ne0 (by omega) (by omega)
          have hh2 := rb_has (b := rr_c sv b M k) (k := sv k 2) (by omega) (by omega)
          rw [if_neg hne, ckr, pr_sb, pr_rdR (by omega) (by omega), r0, pr_sb, pr_dr r1, pr_sb, r2, hh2, pr_sb]
          have hb0 : (rr_c sv b M k == 0) = false := by
            rw [beq_eq_false_iff_ne]
            exact h0
          cases ht : (rr_c sv b M k).testBit (sv k 2) with
          | false =>
            simp only [hb0, Bool.false_or, Bool.false_eq_true, if_false]
            rw [if_pos trivial, nI_1]
          | true =>
            simp only [hb0, Bool.false_or, if_true]
            rw [if_neg (by decide), j54]
    · show f_X4_handsReached_l13 S I R (nI b) (nI (rr_c sv b M s)) u (nI s) = _
      unfold f_X4_handsReached_l13
      rw [h16, if_pos (nI_le (Nat.le_refl _) (by omega))]
  unfold f_X4_handsReached
  rw [show ((0 : Int32), (0 : Int32)) = (fun r => (nI (rr_R sv b s r), nI r)) 0 from rfl, pr_run (f := fun a9 : Int32 × Int32 => f_X4_handsReached_l4 S I R (nI b) a9.1 a9.2) (fun r => (nI (rr_R sv b s r), nI r)) 10 (b := (nI (rr_R sv b s 10), nI 10))]
  · rfl
  · intro r hr
    show f_X4_handsReached_l4 S I R (nI b) (nI (rr_R sv b s r)) (nI r) = _
    unfold f_X4_handsReached_l4
    rw [if_neg (show ¬ (10 : Int32) ≤ nI r from nI_ge (b := 10) hr (by omega)), inner _ (rr_R10 hB r), pr_b2, nI_1]
    rfl
  · show f_X4_handsReached_l4 S I R (nI b) (nI (rr_R sv b s 10)) (nI 10) = _
    unfold f_X4_handsReached_l4
    rw [if_pos (by decide)]
theorem rm_reach (hB : pv_B c s sv cv) (hY : pv_Y c s sv cv I) {b h : Nat} (hh : h < 10) (hb31 : b < 2 ^ 31) : ∃ X, X < 2 ^ 10 ∧ rg_X sv s b h X ∧ f_X10_reached I (nI b) (nI h) = some (nI X) := by
  obtain ⟨y1, y2, y3, y4⟩ := hY
  have hs := hB.2.1
  have inner : ∀ M, M < 2 ^ 10 → ∀ u : Int32, rk_while (fun a9 : Int32 × Int32 => f_X10_reached_l19 I (nI b) a9.1 u a9.2) (nI M, 0) = some (nI (rr_m sv b M s), nI s) := fun M hM u => by
    refine pr_run (f := fun a9 : Int32 × Int32 => f_X10_reached_l19 I (nI b) a9.1 u a9.2) (fun k => (nI (rr_m sv b M k), nI k)) s ?_ ?_
    · intro k hk
      show f_X10_reached_l19 I (nI b) (nI (rr_m sv b M k)) u (nI k) = _
      obtain ⟨-, -, r2, r3, -⟩ := y3 k hk
      have hbb := hB.2.2.1 k hk
      have hc10 := rr_m10 hB (b := b) hM k (by omega)
      have hu : rr_m sv b M (k + 1) = if b.testBit k && (rr_m sv b M k).testBit (sv k 2) then rr_m sv b M k ||| 2 ^ sv k 3 else rr_m sv b M k := rfl
      unfold f_X10_reached_l19
      rw [y2, if_neg (nI_ge hk (by omega)), rb_sh hb31 (by omega), pr_rd (by omega) (by omega), pr_rd (by omega) (by omega), r2, r3, rb_or0, hu]
      simp only [pr_sb]
      rw [rb_sh (b := rr_m sv b M k) (by omega) (by omega), rb_1 (by omega), fa_or, nI_1]
      cases hbk : b.testBit k with
      | false =>
        have hn : ¬ (nI (b / 2 ^ k) &&& 1 = 1) := fun z => by rw [(rb_t1 hb31).mp z] at hbk; cases hbk
        rw [if_neg hn]
        rfl
      | true =>
        rw [if_pos ((rb_t1 hb31).mpr hbk)]
        cases ht : (rr_m sv b M k).testBit (sv k 2) with
        | false =>
          have hn : ¬ (nI (rr_m sv b M k / 2 ^ sv k 2) &&& 1 = 1) := fun z => by rw [(rb_t1 (by omega)).mp z] at ht; cases ht
          rw [if_neg hn]
          rfl
        | true =>
          rw [if_pos ((rb_t1 (by omega)).mpr ht)]
          rfl
    · show f_X10_reached_l19 I (nI b) (nI (rr_m sv b M s)) u (nI s) = _
      unfold f_X10_reached_l19
      rw [y2, if_pos (nI_le (Nat.le_refl _) (by omega))]
  -- the outer loop, by what is not reached yet
  have outer : ∀ m M, 1024 - M < m → M < 2 ^ 10 → M.testBit h = true → (∀ C : Nat → Prop, rr_C sv s b C → C h → ∀ x, M.testBit x = true → C x) → ∀ last : Nat, last < 2 ^ 31 → (last = M → rr_m sv b M s = M) → ∃ X z, X < 2 ^ 10 ∧ rg_X sv s b h X ∧ rk_while (fun a9 : Int32 × Int32 => f_X10_reached_l7 I (nI b) a9.1 a9.2) (nI M, nI last) = some (nI X, z) := by
    intro m
    induction m with
    | zero => intro M h; omega
    | succ m ih =>
      intro M hm hM hMh hL last hl31 hl
      by_cases he : last = M
      · refine ⟨M, nI last, hM, ⟨hMh, rr_mE (hl he), hL⟩, rk_while_out ?_⟩
        show f_X10_reached_l7 I (nI b) (nI M) (nI last) = _
        unfold f_X10_reached_l7
        rw [if_pos (by rw [he])]
      · have hne : ¬ nI M = nI last := fun z => he ((nI_eq (by omega) (by omega)).mp z).symm
        have st : f_X10_reached_l7 I (nI b) (nI M) (nI last) = some (.inl (nI (rr_m sv b M s), nI M)) := by
          unfold f_X10_reached_l7
          rw [if_neg hne, inner M hM, pr_b2]
        have hge := rr_mge (sv := sv) (b := b) (M := M) 0 s
        rw [Nat.zero_add] at hge
        have hge : M ≤ rr_m sv b M s := hge
        have h10 := rr_m10 hB (b := b) hM s (Nat.le_refl _)
        by_cases hst : rr_m sv b M s = M
        · refine ⟨M, nI M, hM, ⟨hMh, rr_mE hst, hL⟩, (rk_while_in (a' := (nI M, nI M)) (by rw [hst] at st; exact st)).trans (rk_while_out ?_)⟩
          show f_X10_reached_l7 I (nI b) (nI M) (nI M) = _
          unfold f_X10_reached_l7
          rw [if_pos rfl]
        · obtain ⟨X, z, q1, q2, q3⟩ := ih (rr_m sv b M s) (by omega) h10 (rr_mS s hMh) (fun C hC hC0 x hx => rr_mL hC (hL C hC hC0) s (Nat.le_refl _) x hx) M (by omega) (fun e => absurd e.symm hst)
          exact ⟨X, z, q1, q2, (rk_while_in (a' := (nI (rr_m sv b M s), nI M)) st).trans q3⟩
  have hp : 2 ^ h < 2 ^ 10 := Nat.pow_lt_pow_right (by decide) hh
  obtain ⟨X, z, q1, q2, q3⟩ := outer (1024 - 2 ^ h + 1) (2 ^ h) (Nat.lt_succ_self _) hp Nat.testBit_two_pow_self (fun C _ hC0 x hx => by
    rw [Nat.testBit_two_pow, decide_eq_true_iff] at hx
    rw [← hx]
    exact hC0) 0 (by omega) (fun e => by have := Nat.two_pow_pos h; omega)
  refine ⟨X, q1, q2, ?_⟩
  have q3 : rk_while (fun a9 : Int32 × Int32 => f_X10_reached_l7 I (nI b) a9.1 a9.2) (nI (2 ^ h), 0) = some (nI X, z) := q3
  unfold f_X10_reached
  rw [rb_1 (by omega), q3, pr_b2]
/-- the class's ask -/
theorem rc_ring (hB : pv_B c s sv cv) (hX : pv_X n c s oc os sv cv S I R) {b : Nat} (h0 : 0 < b) (hb : b < 2 ^ s) : ∃ I' R', ((rg_ring sv s b ∧ f_X4_isRing_16_2 S I R (nI s) (nI b) = some (1, I', R')) ∨ (¬ rg_ring sv s b ∧ f_X4_isRing_16_2 S I R (nI s) (nI b) = some (0, I', R'))) ∧ (∀ q i, q ≠ 16 → q ≠ 17 → I' q i = I q i) ∧ kR R R' := by
  have hs := hB.2.1
  have hb31 := rb_lt31 hs hb
  have k1 : kI I (rk_ui I 16 2 (nI s)) := fun q i hq => by
    unfold kp at hq
    rw [ui_o (by omega)]
  have kr1 : kR R (rk_ur R 16 1 (some 2)) := fun q i a b => by
    by_cases hq : q = 16
    · subst hq
      rw [ur_n (fun e => b ⟨rfl, e⟩)]
    · rw [ur_o hq]
  have hX1 := kX hX k1 kr1
  have e16 : rk_ui I 16 2 (nI s) 16 2 = nI s := ui_s
  have eR : rk_ur R 16 1 (some 2) 16 1 = some 2 := ur_s
  have f1 : ∀ q i, q ≠ 16 → q ≠ 17 → rk_ui I 16 2 (nI s) q i = I q i := fun q i a b => by rw [ui_o a]
  rcases rc_am hB hX1 e16 eR hb31 with ⟨a1, a2⟩ | ⟨a1, a2⟩
  · obtain ⟨I2, hI2, g2⟩ := rc_bal hB hX1 e16 eR hb31
    have k2 : kI (rk_ui I 16 2 (nI s)) I2 := fun q i hq => by
      unfold kp at hq
      rw [g2 q (by omega)]
    have hX2 := kX hX1 k2 (kR_r _)
    have e16' : I2 16 2 = nI s := by rw [g2 16 (by omega)]; exact e16
    have f2 : ∀ q i, q ≠ 16 → q ≠ 17 → I2 q i = I q i := fun q i a b => by rw [g2 q b, f1 q i a b]
    rcases hI2 with ⟨c1, c2⟩ | ⟨c1, c2⟩
    · have d1 := rc_reach hB hX2 e16' eR hb31
      have d2 := rc_in hB hX2 e16' eR hb31
      have m1 := rr_R10 hB (b := b) 10
      have m2 := rg_in10 hB (b := b) s (Nat.le_refl _)
      refine ⟨I2, rk_ur R 16 1 (some 2), ?_, f2, kr1⟩
      by_cases he : rr_R sv b s 10 = rg_in sv b s
      · left
        refine ⟨⟨a1, c1, (rg_eq hB h0 hb c1).mp he⟩, ?_⟩
        unfold f_X4_isRing_16_2
        rw [pr_sb, pr_sb, a2, pr_sb, if_neg (by decide), c2, pr_b2, if_neg (by decide), d1, pr_sb, d2, pr_sb, if_pos (by rw [he])]
      · right
        refine ⟨fun z => he ((rg_eq hB h0 hb c1).mpr z.2.2), ?_⟩
        unfold f_X4_isRing_16_2
        rw [pr_sb, pr_sb, a2, pr_sb, if_neg (by decide), c2, pr_b2, if_neg (by decide), d1, pr_sb, d2, pr_sb, if_neg (fun z => he ((nI_eq (by omega) (by omega)).mp z))]
    · refine ⟨I2, rk_ur R 16 1 (some 2), Or.inr ⟨fun z => c1 z.2.1, ?_⟩, f2, kr1⟩
      unfold f_X4_isRing_16_2
      rw [pr_sb, pr_sb, a2, pr_sb, if_neg (by decide), c2, pr_b2, if_pos rfl]
  · refine ⟨rk_ui I 16 2 (nI s), rk_ur R 16 1 (some 2), Or.inr ⟨fun z => a1 z.1, ?_⟩, f1, kr1⟩
    unfold f_X4_isRing_16_2
    rw [pr_sb, pr_sb, a2, pr_sb, if_pos rfl]
/-- the reference's ask -/
theorem rm_ring (hB : pv_B c s sv cv) (hY : pv_Y c s sv cv I) {b : Nat} (hb31 : b < 2 ^ 31) : (rg_ring sv s b ∧ f_X10_isRing I (nI b) = some 1) ∨ (¬ rg_ring sv s b ∧ f_X10_isRing I (nI b) = some 0) := by
  have hs := hB.2.1
  unfold f_X10_isRing
  rcases rm_in hB hY hb31 with ⟨a1, l, a2⟩ | ⟨a1, a2⟩
  · have m2 := rg_in10 hB (b := b) s (Nat.le_refl _)
    have hallC : rr_C sv s b (fun x => (rg_in sv b s).testBit x = true) := fun k hk hbk _ => (rg_inT s).mpr ⟨k, hk, hbk, Or.inr rfl⟩
    -- a hand of no sale is balanced
    have hno : ∀ x, (rg_in sv b s).testBit x = false → rg_off sv b x s = 0 := fun x hx => by
      have z : fb_si (rg_f sv b x) s = fb_si (fun _ => 0) s := by
        apply fb_si_cong
        intro k hk
        unfold rg_f
        cases hbk : b.testBit k with
        | false => rfl
        | true =>
          have n2 : ¬ sv k 2 = x := fun e => by rw [(rg_inT s).mpr ⟨k, hk, hbk, Or.inl e⟩] at hx; cases hx
          have n3 : ¬ sv k 3 = x := fun e => by rw [(rg_inT s).mpr ⟨k, hk, hbk, Or.inr e⟩] at hx; cases hx
          rw [if_pos rfl, if_neg n2, if_neg n3]
          rfl
      have := fb_si_mul 0 (fun _ => (0 : Int)) s
      show fb_si (rg_f sv b x) s = 0
      rw [z]
      simpa using this
    obtain ⟨w, e2, hw⟩ := pr_for0 (f := fun a9 : Int32 => f_X10_isRing_l84 I (nI b) (nI (rg_in sv b s)) a9) (fun k a => a = nI k ∧ ∀ x, x < k → (rg_in sv b s).testBit x = true → rg_off sv b x s = 0 ∧ rg_X sv s b x (rg_in sv b s)) 10 (fun a => (rg_ring sv s b ∧ ∃ y, a = .inl y) ∨ (¬ rg_ring sv s b ∧ a = .inr 0)) 0 ⟨rfl, fun x hx => absurd hx (Nat.not_lt_zero x)⟩ (by
        rintro k y hk ⟨hy, g1⟩
        subst hy
        have c0 : ¬ (10 : Int32) ≤ nI k := nI_ge (b := 10) hk (by omega)
        cases hbk : (rg_in sv b s).testBit k with
        | false =>
          left
          refine ⟨nI (k + 1), ?_, rfl, fun x hx hxb => ?_⟩
          · show f_X10_isRing_l84 I (nI b) (nI (rg_in sv b s)) (nI k) = _
            unfold f_X10_isRing_l84
            rw [if_neg c0, rb_sh (by omega) (by omega), if_pos ((rb_t (by omega)).mpr hbk), nI_1]
          · by_cases hxk : x = k
            · rw [hxk, hbk] at hxb; cases hxb
            · exact g1 x (by omega) hxb
        | true =>
          have hnb : ¬ (nI (rg_in sv b s / 2 ^ k) &&& 1 = 0) := fun w => by rw [(rb_t (by omega)).mp w] at hbk; cases hbk
          have ho := rm_off hB hY (b := b) (x := k) (nI (rg_in sv b s)) hk hb31
          have hoB := rg_offB (sv := sv) (b := b) (x := k) s
          by_cases h0 : rg_off sv b k s = 0
          · obtain ⟨X, q1, q2, q3⟩ := rm_reach hB hY (b := b) hk hb31
            by_cases hX : X = rg_in sv b s
            · left
              refine ⟨nI (k + 1), ?_, rfl, fun x hx hxb => ?_⟩
              · show f_X10_isRing_l84 I (nI b) (nI (rg_in sv b s)) (nI k) = _
                unfold f_X10_isRing_l84
                rw [if_neg c0, rb_sh (by omega) (by omega), if_neg hnb, ho, pr_b2, if_pos ((zI_0 (by omega) (by omega)).mpr h0), q3, pr_sb, if_pos (by rw [hX]), nI_1]
              · by_cases hxk : x = k
                · rw [hxk]
                  exact ⟨h0, by rw [← hX]; exact q2⟩
                · exact g1 x (by omega) hxb
            · right
              refine ⟨.inr 0, ?_, Or.inr ⟨fun z => hX (rg_Xu q2 (z.2.2 k hbk)), rfl⟩⟩
              show f_X10_isRing_l84 I (nI b) (nI (rg_in sv b s)) (nI k) = _
              unfold f_X10_isRing_l84
              rw [if_neg c0, rb_sh (by omega) (by omega), if_neg hnb, ho, pr_b2, if_pos ((zI_0 (by omega) (by omega)).mpr h0), q3, pr_sb, if_neg (fun z => hX ((nI_eq (by omega) (by omega)).mp z))]
          · right
            refine ⟨.inr 0, ?_, Or.inr ⟨fun z => h0 (z.2.1 k hk), rfl⟩⟩
            show f_X10_isRing_l84 I (nI b) (nI (rg_in sv b s)) (nI k) = _
            unfold f_X10_isRing_l84
            rw [if_neg c0, rb_sh (by omega) (by omega), if_neg hnb, ho, pr_b2, if_neg (fun z => h0 ((zI_0 (by omega) (by omega)).mp z))]) (by
        rintro y ⟨hy, g1⟩
        subst hy
        refine ⟨.inl (nI 10), ?_, Or.inl ⟨⟨a1, fun x hx => ?_, fun x hx => ?_⟩, _, rfl⟩⟩
        · show f_X10_isRing_l84 I (nI b) (nI (rg_in sv b s)) (nI 10) = _
          unfold f_X10_isRing_l84
          rw [if_pos (by decide)]
        · cases hxb : (rg_in sv b s).testBit x with
          | false => exact hno x hxb
          | true => exact (g1 x hx hxb).1
        · have hx10 : x < 10 := by
            rcases Nat.lt_or_ge x 10 with g | g
            · exact g
            · rw [Nat.testBit_lt_two_pow (Nat.lt_of_lt_of_le m2 (Nat.pow_le_pow_right (by decide) g))] at hx
              cases hx
          exact (g1 x hx10 hx).2)
    rw [a2, pr_sb, pr_sc0]
    show (rg_ring sv s b ∧ (rk_while (fun a9 : Int32 => f_X10_isRing_l84 I (nI b) (nI (rg_in sv b s)) a9) 0).bind _ = _) ∨ (_ ∧ (rk_while (fun a9 : Int32 => f_X10_isRing_l84 I (nI b) (nI (rg_in sv b s)) a9) 0).bind _ = _)
    rw [e2]
    rcases hw with ⟨h1, y, rfl⟩ | ⟨h1, rfl⟩
    · exact Or.inl ⟨h1, rfl⟩
    · exact Or.inr ⟨h1, rfl⟩
  · right
    rw [a2]
    exact ⟨fun z => a1 z.1, rfl⟩
end RG
theorem kI_ring {I I' : rk_I} (h : ∀ q i, q ≠ 16 → q ≠ 17 → I' q i = I q i) : kI I I' := fun q i hq => by
  unfold kp at hq
  exact h q i (by omega) (by omega)
theorem ck_closes {n : Nat} {S : rk_Sh} {I : rk_I} {R : rk_R} (h : iv n S I R) (a : Int32) : ∃ v I1 R1, f_X9_closes S I R a = some (v, I1, R1) ∧ f_X10_closes I1 a = some v ∧ iv n S I1 R1 := by
  have h' := h
  obtain ⟨c, s, t, r, oc, os, ot, sv, cv, h1, h2, h3, h4, h5, h6, h7, h8, h9, h10, h11⟩ := h
  rcases rg_both h5 h6 h7 a with ⟨b, b0, b1, rfl, q1, q2, q3⟩ | ⟨q2, q3⟩
  · obtain ⟨I1, R1, hr, g1, g2⟩ := rc_ring h5 h6 b0 b1
    have k1 := kI_ring g1
    have hm := rm_ring h5 (kY h7 k1) (rb_lt31 h5.2.1 b1)
    rcases hr with ⟨r1, r2⟩ | ⟨r1, r2⟩
    · refine ⟨1, I1, R1, ?_, ?_, iv_k h' k1 g2⟩
      · unfold f_X9_closes
        rw [q2, pr_sb, if_neg (by decide), h6.2.2.1, r2, pr_b3, if_neg (by decide)]
      · unfold f_X10_closes
        rcases hm with ⟨-, m⟩ | ⟨m, -⟩
        · rw [q3 I1 k1, pr_sb, if_neg (by decide), m, pr_sb, if_neg (by decide)]
        · exact absurd r1 m
    · refine ⟨0, I1, R1, ?_, ?_, iv_k h' k1 g2⟩
      · unfold f_X9_closes
        rw [q2, pr_sb, if_neg (by decide), h6.2.2.1, r2, pr_b3, if_pos rfl]
      · unfold f_X10_closes
        rcases hm with ⟨m, -⟩ | ⟨-, m⟩
        · exact absurd m r1
        · rw [q3 I1 k1, pr_sb, if_neg (by decide), m, pr_sb, if_pos rfl]
  · refine ⟨-2, I, R, ?_, ?_, h'⟩
    · unfold f_X9_closes
      rw [q2]
      rfl
    · unfold f_X10_closes
      rw [q3 I (kI_r _)]
      rfl
