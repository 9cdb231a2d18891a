/-- does one pass at an hour -/
theorem bm_in {c s : Nat} {sv cv : pv_V} {I : rk_I} (hB : pv_B c s sv cv) (hY : pv_Y c s sv cv I) {g hand wh t : Nat} {x3 : Int32} (hg : g < c) {ev : Nat → Bool} (hev : ∀ t, ev t = true ↔ ∃ k, k < s ∧ sv k 1 = g ∧ ps sv cv k 1 = t) (ht : t < 2147483648) (m0 : Bool) : rk_while (fun a9 : Int32 × Int32 => f_X10_between_l97 I (nI g) (nI hand) x3 (nI wh) 0 (nI t) a9.1 a9.2) ((if m0 then 1 else 0), 0) = some ((if m0 || ev t then 1 else 0), nI s) ∧ ∀ b : Int32, rk_while (fun a9 : Int32 × Int32 => f_X10_between_l97 I (nI g) (nI hand) x3 (nI wh) b (nI t) a9.1 a9.2) ((if m0 then 1 else 0), 0) = some ((if m0 || ev t then 1 else 0), nI s) := by
  have key : ∀ b : Int32, rk_while (fun a9 : Int32 × Int32 => f_X10_between_l97 I (nI g) (nI hand) x3 (nI wh) b (nI t) a9.1 a9.2) ((if m0 then 1 else 0), 0) = some ((if m0 || ev t then 1 else 0), nI s) := by
    intro b
    have hs := hB.2.1
    have hc := hB.1
    obtain ⟨⟨z1, z2⟩, e1, p1, p2⟩ := pr_for0 (f := fun a9 : Int32 × Int32 => f_X10_between_l97 I (nI g) (nI hand) x3 (nI wh) b (nI t) a9.1 a9.2) (fun k a => a.2 = nI k ∧ ((a.1 = 1 ∧ (m0 = true ∨ ∃ q, q < k ∧ sv q 1 = g ∧ ps sv cv q 1 = t)) ∨ (a.1 = 0 ∧ m0 = false ∧ ∀ q, q < k → ¬ (sv q 1 = g ∧ ps sv cv q 1 = t)))) s (fun a => a.2 = nI s ∧ ((a.1 = 1 ∧ (m0 = true ∨ ∃ q, q < s ∧ sv q 1 = g ∧ ps sv cv q 1 = t)) ∨ (a.1 = 0 ∧ m0 = false ∧ ∀ q, q < s → ¬ (sv q 1 = g ∧ ps sv cv q 1 = t)))) ((if m0 then 1 else 0), 0) ⟨rfl, by
        cases m0 with
        | true => exact Or.inl ⟨rfl, Or.inl rfl⟩
        | false => exact Or.inr ⟨rfl, rfl, fun q hq => absurd hq (Nat.not_lt_zero q)⟩⟩ (by
        rintro k ⟨x, y⟩ hk ⟨hy, hx⟩
        left
        have hy : y = nI k := hy
        subst hy
        have c0 : ¬ nI s ≤ nI k := nI_ge hk (by omega)
        have hcg := (hB.2.2.1 k hk).2.1
        have hpb := ps_B hB hk 1
        rcases hx with ⟨hx, h1⟩ | ⟨hx, h1, h2⟩
        · have hx : x = 1 := hx
          subst hx
          refine ⟨(1, nI (k + 1)), ?_, rfl, Or.inl ⟨rfl, ?_⟩⟩
          · show f_X10_between_l97 I (nI g) (nI hand) x3 (nI wh) b (nI t) 1 (nI k) = _
            unfold f_X10_between_l97
            rw [hY.2.1, if_neg c0, if_neg (by decide), nI_1]
          · rcases h1 with h1 | ⟨q, q1, q2⟩
            · exact Or.inl h1
            · exact Or.inr ⟨q, by omega, q2⟩
        · have hx : x = 0 := hx
          subst hx
          have pp : f_X10_passes I (nI k) 1 = some (nI (ps sv cv k 1)) := pm_P (w := 1) hB hY.2.2.1 hY.2.2.2 hk (by omega)
          by_cases hq : sv k 1 = g ∧ ps sv cv k 1 = t
          · refine ⟨(1, nI (k + 1)), ?_, rfl, Or.inl ⟨rfl, Or.inr ⟨k, by omega, hq⟩⟩⟩
            show f_X10_between_l97 I (nI g) (nI hand) x3 (nI wh) b (nI t) 0 (nI k) = _
            unfold f_X10_between_l97
            rw [hY.2.1, if_neg c0, if_pos rfl, pr_rd (by omega) (by omega), (hY.2.2.1 k hk).2.1, pr_sb, if_pos (by rw [hq.1]), pp, pr_sb, if_pos (by rw [hq.2]), nI_1]
          · refine ⟨(0, nI (k + 1)), ?_, rfl, Or.inr ⟨rfl, h1, fun q hq1 => ?_⟩⟩
            · show f_X10_between_l97 I (nI g) (nI hand) x3 (nI wh) b (nI t) 0 (nI k) = _
              unfold f_X10_between_l97
              rw [hY.2.1, if_neg c0, if_pos rfl, pr_rd (by omega) (by omega), (hY.2.2.1 k hk).2.1, pr_sb, nI_1]
              by_cases hkg : sv k 1 = g
              · rw [if_pos (by rw [hkg]), pp, pr_sb, if_neg (fun z => hq ⟨hkg, (nI_eq (by omega) (by omega)).mp z⟩)]
              · rw [if_neg (fun z => hkg ((nI_eq (by omega) (by omega)).mp z))]
            · by_cases hqk : q = k
              · subst hqk; exact hq
              · exact h2 q (by omega)) (by
        rintro ⟨x, y⟩ ⟨hy, hx⟩
        have hy' : y = nI s := hy
        subst hy'
        refine ⟨(x, nI s), ?_, hy, hx⟩
        show f_X10_between_l97 I (nI g) (nI hand) x3 (nI wh) b (nI t) x (nI s) = _
        unfold f_X10_between_l97
        rw [hY.2.1, if_pos (nI_le (Nat.le_refl _) (by omega))])
    have p1 : z2 = nI s := p1
    subst p1
    rw [e1]
    rcases p2 with ⟨hz, h1⟩ | ⟨hz, h1, h2⟩
    · have hz : z1 = 1 := hz
      have : (m0 || ev t) = true := by
        rcases h1 with h1 | h1
        · rw [h1]; rfl
        · rw [(hev t).mpr h1]; exact Bool.or_true _
      rw [hz, this]
      rfl
    · have hz : z1 = 0 := hz
      have : (m0 || ev t) = false := by
        rw [h1]
        cases he : ev t with
        | false => rfl
        | true =>
          obtain ⟨q, q1, q2⟩ := (hev t).mp he
          exact absurd q2 (h2 q q1)
      rw [hz, this]
      rfl
  exact ⟨key 0, key⟩
/-- the reference's walk -/
theorem bt_m {c s : Nat} {sv cv : pv_V} {I : rk_I} (hB : pv_B c s sv cv) (hY : pv_Y c s sv cv I) {g m lo hi hand wh : Nat} {L : Nat → Nat} {x3 : Int32} (hg : g < c) (hlo : lo ≤ hi) (hhi : hi < 1000) (hh : hand < 10) (hwh : wh < 2) (e1 : x3 / 1000 = nI lo) (e2 : rk_md x3 1000 = nI hi) (hL : lg_L sv (fun k => ps sv cv k 1) s g m L) {ev : Nat → Bool} (hev : ∀ t, ev t = true ↔ ∃ k, k < s ∧ sv k 1 = g ∧ ps sv cv k 1 = t) {H : Nat → Nat} (hH : ∀ t, H t = lg_H sv L (lg_0 cv g) (lg_D (fun k => ps sv cv k 1) L t m) hand) : ∃ z I', rk_while (fun a9 : Int32 × Int32 × rk_I => f_X10_between_l67 a9.2.2 (nI g) (nI hand) x3 (nI wh) a9.1 a9.2.1) (-1, nI lo, I) = some (nI (bt_B H ev wh lo (hi - lo)), z, I') ∧ ∀ q, q ≠ 47 → q ≠ 48 → I' q = I q := by
  have hs := hB.2.1
  have hm := hL.1
  have hDd := fun t => lg_Dd (p := fun k => ps sv cv k 1) (L := L) (t := t) m hL.2.1
  have hHb : ∀ t, H t ≤ 25000 := fun t => by
    rw [hH]
    have := lg_Hb hB hL hg _ (hDd t).1 hand
    have := (hDd t).1
    omega
  have hBb : ∀ w j, bt_B H ev w lo j ≤ 25000 := by
    intro w j
    induction j with
    | zero => exact hHb lo
    | succ j ih =>
      have := hHb (lo + j + 1)
      show (if ev (lo + j + 1) then (if w = 0 then min (bt_B H ev w lo j) (H (lo + j + 1)) else max (bt_B H ev w lo j) (H (lo + j + 1))) else bt_B H ev w lo j) ≤ _
      split
      · split <;> omega
      · exact ih
  have hold : ∀ K : rk_I, (∀ q, q ≠ 47 → q ≠ 48 → K q = I q) → ∀ t, t < 1000 → ∃ I', f_X10_lays K (nI g) (nI t) 1 = some I' ∧ rk_rd I' 47 10 (nI hand) = some (nI (H t)) ∧ ∀ q, q ≠ 47 → q ≠ 48 → I' q = I q := fun K hK t ht => by
    obtain ⟨I', q1, q2, q3⟩ := ly_lays (w := 1) hB (kY hY (kI_lay hK)) hg (by omega) ht hL (hDd t)
    refine ⟨I', q1, ?_, fun q a b => (q3 q a b).trans (hK q a b)⟩
    rw [pr_rd hh (by omega), q2 hand hh, hH]
  -- the first hour
  obtain ⟨I1, f1, f2, f3⟩ := hold I (fun _ _ _ => rfl) lo (by omega)
  have s1 : f_X10_between_l67 I (nI g) (nI hand) x3 (nI wh) (-1) (nI lo) = some (.inl (nI (H lo), nI (lo + 1), I1)) := by
    unfold f_X10_between_l67 f_X10_between_j92
    have hin := (bm_in hB hY (hand := hand) (wh := wh) (x3 := x3) hg hev (by omega : lo < 2147483648) true).2 (-1)
    have hin : rk_while (fun a9 : Int32 × Int32 => f_X10_between_l97 I (nI g) (nI hand) x3 (nI wh) (-1) (nI lo) a9.1 a9.2) (1, 0) = some (1, nI s) := hin
    rw [e2, if_neg (nI_nlt hlo (by omega)), e1, if_pos rfl, hin, pr_b2, if_neg (by decide), f1, pr_sb, if_pos rfl, f2, pr_sb, nI_1]
  obtain ⟨⟨z1, z2, J⟩, w1, w2, w3⟩ := pr_for0 (f := fun a9 : Int32 × Int32 × rk_I => f_X10_between_l67 a9.2.2 (nI g) (nI hand) x3 (nI wh) a9.1 a9.2.1) (fun j a => a.1 = nI (bt_B H ev wh lo j) ∧ a.2.1 = nI (lo + j + 1) ∧ ∀ q, q ≠ 47 → q ≠ 48 → a.2.2 q = I q) (hi - lo) (fun b => b.1 = nI (bt_B H ev wh lo (hi - lo)) ∧ ∀ q, q ≠ 47 → q ≠ 48 → b.2.2 q = I q) (nI (H lo), nI (lo + 1), I1) ⟨rfl, rfl, f3⟩ (by
      rintro j ⟨x, y, K⟩ hj ⟨hx, hy, g1⟩
      left
      have hx : x = nI (bt_B H ev wh lo j) := hx
      have hy : y = nI (lo + j + 1) := hy
      subst hx
      subst hy
      have g1 : ∀ q, q ≠ 47 → q ≠ 48 → K q = I q := g1
      have hYK := kY hY (kI_lay g1)
      have cne : ¬ nI (lo + j + 1) = nI lo := fun z => by have := (nI_eq (by omega) (by omega)).mp z; omega
      have hin := (bm_in hB hYK (hand := hand) (wh := wh) (x3 := x3) hg hev (by omega : lo + j + 1 < 2147483648) false).2 (nI (bt_B H ev wh lo j))
      have hin : rk_while (fun a9 : Int32 × Int32 => f_X10_between_l97 K (nI g) (nI hand) x3 (nI wh) (nI (bt_B H ev wh lo j)) (nI (lo + j + 1)) a9.1 a9.2) (0, 0) = some ((if (false || ev (lo + j + 1)) then 1 else 0), nI s) := hin
      have hb1 := hBb wh j
      have hb2 := hHb (lo + j + 1)
      cases hev' : ev (lo + j + 1) with
      | false =>
        rw [hev'] at hin
        have hin : rk_while (fun a9 : Int32 × Int32 => f_X10_between_l97 K (nI g) (nI hand) x3 (nI wh) (nI (bt_B H ev wh lo j)) (nI (lo + j + 1)) a9.1 a9.2) (0, 0) = some (0, nI s) := hin
        have u : bt_B H ev wh lo (j + 1) = bt_B H ev wh lo j := by
          show (if ev (lo + j + 1) then _ else _) = _
          rw [hev']
          rfl
        refine ⟨(nI (bt_B H ev wh lo j), nI (lo + (j + 1) + 1), K), ?_, by rw [u], rfl, g1⟩
        show f_X10_between_l67 K (nI g) (nI hand) x3 (nI wh) (nI (bt_B H ev wh lo j)) (nI (lo + j + 1)) = _
        unfold f_X10_between_l67 f_X10_between_j92
        rw [e2, if_neg (nI_nlt (by omega) (by omega)), e1, if_neg cne, hin, pr_b2, if_pos rfl, nI_1]
        rfl
      | true =>
        rw [hev'] at hin
        have hin : rk_while (fun a9 : Int32 × Int32 => f_X10_between_l97 K (nI g) (nI hand) x3 (nI wh) (nI (bt_B H ev wh lo j)) (nI (lo + j + 1)) a9.1 a9.2) (0, 0) = some (1, nI s) := hin
        obtain ⟨I', f1', f2', f3'⟩ := hold K g1 (lo + j + 1) (by omega)
        have u : bt_B H ev wh lo (j + 1) = if wh = 0 then min (bt_B H ev wh lo j) (H (lo + j + 1)) else max (bt_B H ev wh lo j) (H (lo + j + 1)) := by
          show (if ev (lo + j + 1) then _ else _) = _
          rw [hev']
          rfl
        refine ⟨(nI (bt_B H ev wh lo (j + 1)), nI (lo + (j + 1) + 1), I'), ?_, rfl, rfl, f3'⟩
        show f_X10_between_l67 K (nI g) (nI hand) x3 (nI wh) (nI (bt_B H ev wh lo j)) (nI (lo + j + 1)) = _
        unfold f_X10_between_l67 f_X10_between_j92
        rw [e2, if_neg (nI_nlt (by omega) (by omega)), e1, if_neg cne, hin, pr_b2, if_neg (by decide), f1', pr_sb, if_neg (pr_n1 (by omega)), f2', nI_1, u]
        simp only [pr_sb]
        rcases (by omega : wh = 0 ∨ wh = 1) with rfl | rfl
        · rw [if_pos (show nI 0 = 0 from rfl), if_pos rfl]
          by_cases hle : bt_B H ev 0 lo j ≤ H (lo + j + 1)
          · rw [if_pos (nI_le hle (by omega)), Nat.min_eq_left hle]
            rfl
          · rw [if_neg (nI_ge (by omega) (by omega)), Nat.min_eq_right (by omega)]
            rfl
        · rw [if_neg (show ¬ nI 1 = 0 by decide), if_neg (show ¬ (1 : Nat) = 0 by decide)]
          by_cases hle : H (lo + j + 1) ≤ bt_B H ev 1 lo j
          · rw [if_pos (nI_le hle (by omega)), Nat.max_eq_left hle]
            rfl
          · rw [if_neg (nI_ge (by omega) (by omega)), Nat.max_eq_right (by omega)]
            rfl) (by
      rintro ⟨x, y, K⟩ ⟨hx, hy, g1⟩
      have hy : y = nI (lo + (hi - lo) + 1) := hy
      subst hy
      refine ⟨(x, nI (lo + (hi - lo) + 1), K), ?_, hx, g1⟩
      show f_X10_between_l67 K (nI g) (nI hand) x3 (nI wh) x (nI (lo + (hi - lo) + 1)) = _
      unfold f_X10_between_l67
      rw [e2, if_pos (nI_lt (by omega) (by omega))])
  have w2 : z1 = nI (bt_B H ev wh lo (hi - lo)) := w2
  subst w2
  exact ⟨z2, J, (rk_while_in s1).trans w1, w3⟩
theorem ck_between {n : Nat} {S : rk_Sh} {I : rk_I} {R : rk_R} (h : iv n S I R) (a b d e : Int32) : ∃ v I1 R1 I2, f_X9_between S I R a b d e = some (v, I1, R1) ∧ f_X10_between I1 a b d e = some (v, I2) ∧ iv n S I2 R1 := by
  have h' := h
  obtain ⟨c, s, t, r, oc, os, ot, sv, cv, h1, h2, h3, h4, h5, h6, h7, h8, h9, h10, h11⟩ := h
  have bad : f_X9_between S I R a b d e = some (-2, I, R) → f_X10_between I a b d e = some (-2, I) → ∃ v I1 R1 I2, f_X9_between S I R a b d e = some (v, I1, R1) ∧ f_X10_between I1 a b d e = some (v, I2) ∧ iv n S I2 R1 := fun P Q => ⟨-2, I, R, I, P, Q, h'⟩
  have hud : ∃ u l, f_X9_upperOf d = some u ∧ f_X9_lowerOf d = some l := by
    rcases pc_upper d with ⟨w, -, -, w2, w3⟩ | ⟨-, w2, w3⟩ <;> exact ⟨_, _, w2, w3⟩
  rcases pg_cargo' h5 h6 h7 a with ⟨g, g1, rfl, g3, g4⟩ | ⟨g3, g4⟩
  · have ck : rk_ck S (oc g) 0 5 = some () := pr_ck (h6.2.2.2.2 g g1).2.1
    rcases pg_hand b with ⟨x, x1, rfl, x3, x4⟩ | ⟨-, x3, x4⟩
    · rcases pc_upper d with ⟨w, w1, rfl, w2, w3⟩ | ⟨w1, w2, w3⟩
      · have dw : nI w / 1000 = nI (w / 1000) := pr_dv (d := 1000) w1 (by omega) (by omega)
        have mw : rk_md (nI w) 1000 = nI (w % 1000) := pr_md (d := 1000) w1 (by omega) (by omega)
        have hn0 : ¬ nI w < 0 := nI_pos (by omega)
        rcases pg_hour (nI (w / 1000)) with ⟨y, y1, y2, y3, y4⟩ | ⟨-, y3, y4⟩
        · have hy : w / 1000 = y := (nI_eq (by omega) (by omega)).mp y2
          by_cases hle : w / 1000 ≤ w % 1000
          · have c1 : ¬ nI (w % 1000) < nI (w / 1000) := nI_nlt hle (by omega)
            rcases pg_two e with ⟨q, q1, rfl, q3⟩ | ⟨⟨q1, q2⟩, q3⟩
            · obtain ⟨I1, R1, m, L, e1, p1, p2, p3, p4, p5, p6, p7⟩ := lc_open (w := 1) h5 h6 g1 (by omega)
              have e1 : f_X1_open S I R (oc g) (nI s) 1 = some (I1, R1) := e1
              have hX1 := kX h6 (kI_led p6) (kR_led p7)
              obtain ⟨I2, d0, e2, u1, u2, u3, u4, u5, u6⟩ := lc_run h5 hX1 g1 (by omega : y < 2147483648) p1 p2 p3 p4 p5 (Nat.zero_le _) (fun i hi => absurd hi (Nat.not_lt_zero i))
              have hd0 : d0 = lg_D (fun k => ps sv cv k 1) L y m := lg_d1 u2 (lg_Dd m p1.2.1)
              have f2 : ∀ q i, q ≠ 12 → q ≠ 13 → q ≠ 15 → I2 q i = I q i := fun q i a b e => by rw [u6 q i b (fun z => a z.1), p6 q i a b e]
              have hX2 := kX h6 (kI_led f2) (kR_led p7)
              have hev : ∃ ev : Nat → Bool, ∀ t, ev t = true ↔ ∃ k, k < s ∧ sv k 1 = g ∧ ps sv cv k 1 = t := ⟨fun t => @decide _ (Classical.propDecidable (∃ k, k < s ∧ sv k 1 = g ∧ ps sv cv k 1 = t)), fun t => @decide_eq_true_iff _ (Classical.propDecidable _)⟩
              obtain ⟨ev, hev⟩ := hev
              obtain ⟨H, hH⟩ : ∃ H : Nat → Nat, ∀ t, H t = lg_H sv L (lg_0 cv g) (lg_D (fun k => ps sv cv k 1) L t m) x := ⟨fun t => lg_H sv L (lg_0 cv g) (lg_D (fun k => ps sv cv k 1) L t m) x, fun _ => rfl⟩
              have hw5 : I2 13 x = nI (H y) := by rw [u5 x x1, hd0, hH]
              have hA2 : lg_A os (fun k => ps sv cv k 1) m L I2 R1 := fun i hi => by
                rw [u6 15 i (by omega) (by omega)]
                exact p2 i hi
              obtain ⟨z, I3, e3, v1⟩ := bt_c h5 hX2 g1 (by omega : y ≤ w % 1000) (by omega) x1 q1 p1 hA2 u3 (by rw [u4, hd0]) (fun x hx => by rw [u5 x hx, hd0]) hev hH
              have f3 : ∀ q i, q ≠ 12 → q ≠ 13 → q ≠ 15 → I3 q i = I q i := fun q i a b e => by rw [v1 q i a b e, f2 q i a b e]
              obtain ⟨z', I4, e4, v2⟩ := bt_m (x3 := nI w) h5 (kY h7 (kI_led f3)) g1 (by omega : y ≤ w % 1000) (by omega) x1 q1 (by rw [dw, hy]) mw p1 hev hH
              refine ⟨nI (bt_B H ev q y (w % 1000 - y)), I3, R1, I4, ?_, ?_, iv_k h' (kI_t (kI_led f3) (kI_lay v2)) (kR_led p7)⟩
              · have hj : f_X9_between_j60 S I R (nI x) (nI q) (oc g) (nI (w / 1000)) (nI (w % 1000)) = some (nI (bt_B H ev q y (w % 1000 - y)), I3, R1) := by
                  unfold f_X9_between_j60
                  rw [h6.2.2.1, e1, pr_b2, ck, pr_sb, hy, e2, pr_sb, pr_rd x1 (by omega), hw5, pr_sb, e3, pr_b4]
                  rcases (by omega : q = 0 ∨ q = 1) with rfl | rfl
                  · rw [if_pos (by decide)]
                  · rw [if_neg (by decide)]
                unfold f_X9_between
                rw [g3, pr_sb, w2, pr_sb, w3, pr_sb, pr_oc1, x3, pr_sb, if_neg (by decide), y3, pr_sb, if_neg (by decide), if_neg c1]
                rcases (by omega : q = 0 ∨ q = 1) with rfl | rfl
                · rw [if_pos (by decide)]
                  exact hj
                · rw [if_neg (by decide), if_pos (by decide)]
                  exact hj
              · unfold f_X10_between
                rw [g4 I3 (kI_led f3), pr_sb, if_neg (by decide), x4, pr_sb, if_neg (by decide), if_neg hn0, dw, y4, pr_sb, if_neg (by decide), mw, if_neg c1, q3, pr_sb, if_neg (by decide), hy, e4, pr_b3]
            · refine bad ?_ ?_
              · unfold f_X9_between
                rw [g3, pr_sb, w2, pr_sb, w3, pr_sb, pr_oc1, x3, pr_sb, if_neg (by decide), y3, pr_sb, if_neg (by decide), if_neg c1, if_neg q1, if_neg q2]
              · unfold f_X10_between
                rw [g4 I (kI_r _), pr_sb, if_neg (by decide), x4, pr_sb, if_neg (by decide), if_neg hn0, dw, y4, pr_sb, if_neg (by decide), mw, if_neg c1, q3]
                rfl
          · have c1 : nI (w % 1000) < nI (w / 1000) := nI_lt (by omega) (by omega)
            refine bad ?_ ?_
            · unfold f_X9_between
              rw [g3, pr_sb, w2, pr_sb, w3, pr_sb, pr_oc1, x3, pr_sb, if_neg (by decide), y3, pr_sb, if_neg (by decide), if_pos c1]
            · unfold f_X10_between
              rw [g4 I (kI_r _), pr_sb, if_neg (by decide), x4, pr_sb, if_neg (by decide), if_neg hn0, dw, y4, pr_sb, if_neg (by decide), mw, if_pos c1]
        · refine bad ?_ ?_
          · unfold f_X9_between
            rw [g3, pr_sb, w2, pr_sb, w3, pr_sb, pr_oc1, x3, pr_sb, if_neg (by decide), y3]
            rfl
          · unfold f_X10_between
            rw [g4 I (kI_r _), pr_sb, if_neg (by decide), x4, pr_sb, if_neg (by decide), if_neg hn0, dw, y4]
            rfl
      · refine bad ?_ ?_
        · unfold f_X9_between
          rw [g3, pr_sb, w2, pr_sb, w3, pr_sb, pr_oc1, x3, pr_sb, if_neg (by decide), show f_X9_isHour (-1) = some 0 by decide]
          rfl
        · unfold f_X10_between
          rw [g4 I (kI_r _), pr_sb, if_neg (by decide), x4, pr_sb, if_neg (by decide), if_pos (by rw [fa_lt, pr_z]; exact w1)]
    · obtain ⟨u, l, hu, hl⟩ := hud
      refine bad ?_ ?_
      · unfold f_X9_between
        rw [g3, pr_sb, hu, pr_sb, hl, pr_sb, pr_oc1, x3]
        rfl
      · unfold f_X10_between
        rw [g4 I (kI_r _), pr_sb, if_neg (by decide), x4]
        rfl
  · obtain ⟨u, l, hu, hl⟩ := hud
    refine bad ?_ ?_
    · unfold f_X9_between
      rw [g3, hu, hl]
      rfl
    · unfold f_X10_between
      rw [g4 I (kI_r _)]
      rfl
