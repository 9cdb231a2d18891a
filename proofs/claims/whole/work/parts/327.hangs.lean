theorem hg_rest {I I' : rk_I} {o f : Nat} {x : Int32} (h : ∀ q, q ≠ 47 → q ≠ 48 → I' q = rk_ui I o f x q) (ho : o ≠ 47 ∧ o ≠ 48) : (∀ q, q ≠ 47 → q ≠ 48 → rk_ui I' o f (I o f) q = I q) := fun q a b => by
  by_cases hq : q = o
  · subst hq
    funext i
    by_cases hi : i = f
    · subst hi
      rw [ui_s]
    · rw [ui_n hi, h _ a b, ui_n hi]
  · rw [ui_o hq, h q a b, ui_o hq]
/-- one hour of the reference's loop -/
theorem hm_step {c s : Nat} {sv cv : pv_V} {I : rk_I} (hB : pv_B c s sv cv) (hY : pv_Y c s sv cv I) {g f m t d : Nat} {L : Nat → Nat} (hg : g < c) (hf : f < 3) (ht : t < 1000) (hL : lg_L sv (fun k => ps sv (hr_v cv g f) k 1) s g m L) (hd : lg_d (fun k => ps sv (hr_v cv g f) k 1) m L t d) {h0 : Nat → Nat} (hh0 : ∀ x, h0 x ≤ 25000) (e49 : ∀ x, x < 10 → I 49 x = nI (h0 x)) (w b mo : Int32) : ∃ I', f_X10_hangs_l43 I (nI g) (nI t) w b mo (nI f) = some (.inl (if mo < nI (hg_s (lg_H sv L (lg_0 cv g) d) h0 10) then (nI f, nI (hg_s (lg_H sv L (lg_0 cv g) d) h0 10), nI (f + 1), I') else (b, mo, nI (f + 1), I'))) ∧ ∀ q, q ≠ 47 → q ≠ 48 → I' q = I q := by
  have hc := hB.1
  have e0 : lg_0 (hr_v cv g f) g = lg_0 cv g := by
    unfold lg_0
    rw [hr_o (by omega), hr_o (by omega)]
  obtain ⟨I1, e1, p1⟩ := hm_change (hr_B hB) (hr_Y hY hf) hg ht hL hd hh0 (fun x hx => by rw [ui_o (by omega)]; exact e49 x hx)
  rw [e0] at e1
  refine ⟨rk_ui I1 37 (3 * g + f) (I 37 (3 * g + f)), ?_, hg_rest p1 (by omega)⟩
  have e3 : (3 : Int32) * nI g + nI f = nI (3 * g + f) := by rw [pr_lit 3, pk_mul, nI_add]
  unfold f_X10_hangs_l43
  rw [if_neg (show ¬ (3 : Int32) ≤ nI f from nI_ge (b := 3) hf (by omega)), e3, pr_rd (by omega) (by omega), pr_sb, pr_wr (by omega) (by omega), pr_sb, e1, pr_b2, pr_wr (by omega) (by omega), pr_sb, nI_1]
  split <;> rfl
set_option maxHeartbeats 4000000 in
theorem ck_hangs {n : Nat} {S : rk_Sh} {I : rk_I} {R : rk_R} (h : iv n S I R) (a b d : Int32) : ∃ v I1 R1 I2, f_X9_hangs S I R a b d = some (v, I1, R1) ∧ f_X10_hangs I1 a b d = some (v, I2) ∧ iv n S I2 R1 := by
  have h' := h
  obtain ⟨c, s, t, r, oc, os, ot, sv, cv, h1, h2, h3, h4, h5, h6, h7, h8, h9, h10, h11⟩ := h
  have bad : f_X9_hangs S I R a b d = some (-2, I, R) → f_X10_hangs I a b d = some (-2, I) → ∃ v I1 R1 I2, f_X9_hangs S I R a b d = some (v, I1, R1) ∧ f_X10_hangs I1 a b d = some (v, I2) ∧ iv n S I2 R1 := fun P Q => ⟨-2, I, R, I, P, Q, h'⟩
  have hs := h5.2.1
  rcases pg_cargo' h5 h6 h7 a with ⟨g, g1, rfl, g3, g4⟩ | ⟨g3, g4⟩
  · have ck : rk_ck S (oc g) 0 5 = some () := pr_ck (h6.2.2.2.2 g g1).2.1
    rcases pg_hour b with ⟨y, y1, rfl, y3, y4⟩ | ⟨-, y3, y4⟩
    · rcases pg_two d with ⟨w, w1, rfl, w3⟩ | ⟨⟨w1, w2⟩, w3⟩
      · -- the class's three looks
        obtain ⟨I1, R1, m0, L0, e1, p1, p2, p3, p4, p5, p6, p7⟩ := lc_open (w := 1) h5 h6 g1 (by omega)
        have e1 : f_X1_open S I R (oc g) (nI s) 1 = some (I1, R1) := e1
        obtain ⟨I2, d0, e2, q1, q2, q3, q4, q5, q6⟩ := lc_run h5 (kX h6 (kI_led p6) (kR_led p7)) g1 (by omega : y < 2147483648) p1 p2 p3 p4 p5 (Nat.zero_le _) (fun i hi => absurd hi (Nat.not_lt_zero i))
        have hH0 : ∀ x, lg_H sv L0 (lg_0 cv g) d0 x ≤ 25000 := fun x => by
          have := lg_Hb h5 p1 g1 d0 q2.1 x
          have := p1.1
          have := q2.1
          omega
        obtain ⟨H0, hH0e⟩ : ∃ H0, H0 = lg_H sv L0 (lg_0 cv g) d0 := ⟨_, rfl⟩
        rw [← hH0e] at hH0 q5
        obtain ⟨K, hK⟩ : ∃ K : rk_I, K = (fun k => if k = 19 then va_cpy (I2 13) (I2 19) 0 0 10 else I2 k) := ⟨_, rfl⟩
        have k19 : ∀ x, x < 10 → K 19 x = nI (H0 x) := fun x hx => by
          rw [hK]
          show (if 19 = 19 then va_cpy (I2 13) (I2 19) 0 0 10 else I2 19) x = _
          rw [if_pos rfl, pk_cpy_in (by omega) (by omega), show 0 + (x - 0) = x by omega]
          exact q5 x hx
        have kK : ∀ q i, q ≠ 12 → q ≠ 13 → q ≠ 15 → q ≠ 19 → K q i = I q i := fun q i a b e f => by
          rw [hK]
          show (if q = 19 then va_cpy (I2 13) (I2 19) 0 0 10 else I2 q) i = _
          rw [if_neg f, q6 q i b (fun z => a z.1), p6 q i a b e]
        have kKI : kI I K := fun q i hq => by
          unfold kp at hq
          exact kK q i (by omega) (by omega) (by omega) (by omega)
        have hXK := kX h6 kKI (kR_led p7)
        have eK : f_X9_keepRisk S I R (oc g) (nI y) = some (K, R1) := by
          unfold f_X9_keepRisk
          rw [h6.2.2.1, e1, pr_b2, e2, pr_sb, show rk_cp I2 13 10 19 10 0 0 10 = rk_cp I2 13 10 19 10 (nI 0) (nI 0) (nI 10) from rfl, pr_cp (by omega) (by omega) (by omega) (by omega), hK]
          rfl
        obtain ⟨I3, R3, m1, L1, d1, e3, s1, s2, s3, s4, s5⟩ := hc_change (f := 0) h5 hXK g1 (by omega) y1 hH0 k19
        have e3 : f_X9_changeWithout S K R1 (oc g) 0 (nI y) = _ := e3
        have kI3 : kI I I3 := kI_t kKI (kI_led s4)
        have kR3 : kR R R3 := kR_t (kR_led p7) (kR_led s5)
        have hX3 := kX h6 kI3 kR3
        obtain ⟨I4, R4, m2, L2, d2, e4, u1, u2, u3, u4, u5⟩ := hc_change (f := 1) h5 hX3 g1 (by omega) y1 hH0 (fun x hx => by rw [s4 19 x (by omega) (by omega) (by omega)]; exact k19 x hx)
        have e4 : f_X9_changeWithout S I3 R3 (oc g) 1 (nI y) = _ := e4
        have kI4 : kI I I4 := kI_t kI3 (kI_led u4)
        have kR4 : kR R R4 := kR_t kR3 (kR_led u5)
        have hY4 := kY h7 kI4
        obtain ⟨N1, hN1⟩ : ∃ N1, N1 = hg_s (lg_H sv L1 (lg_0 cv g) d1) H0 10 := ⟨_, rfl⟩
        obtain ⟨N2, hN2⟩ : ∃ N2, N2 = hg_s (lg_H sv L2 (lg_0 cv g) d2) H0 10 := ⟨_, rfl⟩
        have b1 : N1 ≤ 250000 := by
          rw [hN1]
          exact hg_B s3 hH0 10
        have b2 : N2 ≤ 250000 := by
          rw [hN2]
          exact hg_B u3 hH0 10
        -- the reference
        obtain ⟨J1, f1, v1, v2⟩ := ly_lays (w := 1) h5 hY4 g1 (by omega) y1 p1 q2
        rw [← hH0e] at v1
        have f1 : f_X10_lays I4 (nI g) (nI y) 1 = some J1 := f1
        obtain ⟨⟨z, J2⟩, f2, v3, v4⟩ := pr_for0 (f := fun a9 : Int32 × rk_I => f_X10_keeps_l9 a9.2 a9.1) (fun k a => a.1 = nI k ∧ (∀ x, x < k → a.2 49 x = nI (H0 x)) ∧ ∀ q, q ≠ 49 → a.2 q = J1 q) 10 (fun b => (∀ x, x < 10 → b.2 49 x = nI (H0 x)) ∧ ∀ q, q ≠ 49 → b.2 q = J1 q) (0, J1) ⟨rfl, fun x hx => absurd hx (Nat.not_lt_zero x), fun _ _ => rfl⟩ (by
          rintro k ⟨x, Q⟩ hk ⟨hx, g1, g2⟩
          left
          have hx : x = nI k := hx
          subst hx
          have g1 : ∀ x, x < k → Q 49 x = nI (H0 x) := g1
          have g2 : ∀ q, q ≠ 49 → Q q = J1 q := g2
          refine ⟨(nI (k + 1), rk_ui Q 49 k (nI (H0 k))), ?_, rfl, fun x hx => ?_, fun q hq => ?_⟩
          · show f_X10_keeps_l9 Q (nI k) = _
            unfold f_X10_keeps_l9
            rw [if_neg (show ¬ (10 : Int32) ≤ nI k from nI_ge (b := 10) hk (by omega)), pr_rd hk (by omega), g2 47 (by omega), v1 k hk, pr_sb, pr_wr hk (by omega), pr_sb, nI_1]
          · show rk_ui Q 49 k (nI (H0 k)) 49 x = _
            by_cases h : x = k
            · rw [h, ui_s]
            · rw [ui_n h]
              exact g1 x (by omega)
          · show rk_ui Q 49 k (nI (H0 k)) q = _
            rw [ui_o hq]
            exact g2 q hq) (by
          rintro ⟨x, Q⟩ ⟨hx, g1, g2⟩
          have hx : x = nI 10 := hx
          subst hx
          refine ⟨(nI 10, Q), ?_, g1, g2⟩
          show f_X10_keeps_l9 Q (nI 10) = _
          unfold f_X10_keeps_l9
          rw [if_pos (by decide)])
        have v3 : ∀ x, x < 10 → J2 49 x = nI (H0 x) := v3
        have v4 : ∀ q, q ≠ 49 → J2 q = J1 q := v4
        have kJ2 : kI I4 J2 := fun q i hq => by
          have hq' := hq
          unfold kp at hq
          rw [v4 q (by omega), v2 q (by omega) (by omega)]
        have eJ : f_X10_keeps I4 (nI g) (nI y) = some J2 := by
          unfold f_X10_keeps
          rw [f1, pr_sb, f2, pr_b2]
        have hYJ := kY hY4 kJ2
        -- three hours
        obtain ⟨J3, f3, x1⟩ := hm_step (f := 0) h5 hYJ g1 (by omega) y1 s1 s2 hH0 v3 (nI w) (-1) 0
        rw [← hN1] at f3
        have x1' : ∀ x, x < 10 → J3 49 x = nI (H0 x) := fun x hx => by rw [x1 49 (by omega) (by omega)]; exact v3 x hx
        have hYJ3 := kY hYJ (kI_lay x1)
        obtain ⟨A1, M1, hAM1, hM1⟩ : ∃ (A1 : Int32) (M1 : Nat), (if (0 : Int32) < nI N1 then (nI 0, nI N1, nI (0 + 1), J3) else (-1, 0, nI (0 + 1), J3)) = (A1, nI M1, nI 1, J3) ∧ ((0 < N1 ∧ A1 = 0 ∧ M1 = N1) ∨ (N1 = 0 ∧ A1 = -1 ∧ M1 = 0)) := by
          by_cases hp : 0 < N1
          · exact ⟨0, N1, by rw [if_pos (show (0 : Int32) < nI N1 from nI_lt (a := 0) hp (by omega))]; rfl, Or.inl ⟨hp, rfl, rfl⟩⟩
          · exact ⟨-1, 0, by rw [if_neg (show ¬ (0 : Int32) < nI N1 from nI_nlt (b := 0) (a := N1) (by omega) (by omega) |> fun z => by rw [show N1 = 0 by omega]; decide)]; rfl, Or.inr ⟨by omega, rfl, rfl⟩⟩
        rw [hAM1] at f3
        obtain ⟨J4, f4, x2⟩ := hm_step (f := 1) h5 hYJ3 g1 (by omega) y1 u1 u2 hH0 x1' (nI w) A1 (nI M1)
        rw [← hN2] at f4
        have x2' : ∀ x, x < 10 → J4 49 x = nI (H0 x) := fun x hx => by rw [x2 49 (by omega) (by omega)]; exact x1' x hx
        have hYJ4 := kY hYJ3 (kI_lay x2)
        obtain ⟨A2, M2, hAM2, hM2⟩ : ∃ (A2 : Int32) (M2 : Nat), (if nI M1 < nI N2 then (nI 1, nI N2, nI (1 + 1), J4) else (A1, nI M1, nI (1 + 1), J4)) = (A2, nI M2, nI 2, J4) ∧ ((M1 < N2 ∧ A2 = 1 ∧ M2 = N2) ∨ (N2 ≤ M1 ∧ A2 = A1 ∧ M2 = M1)) := by
          by_cases hp : M1 < N2
          · exact ⟨1, N2, by rw [if_pos (nI_lt hp (by omega))]; rfl, Or.inl ⟨hp, rfl, rfl⟩⟩
          · exact ⟨A1, M1, by rw [if_neg (nI_nlt (by omega) (by omega))], Or.inr ⟨by omega, rfl, rfl⟩⟩
        rw [hAM2] at f4
        have pq1 : lg_L sv (fun k => ps sv (hr_v cv g 2) k 1) s g m0 L0 := by rw [hr_p]; exact p1
        have pq2 : lg_d (fun k => ps sv (hr_v cv g 2) k 1) m0 L0 y d0 := by rw [hr_p]; exact q2
        obtain ⟨J5, f5, x3⟩ := hm_step (f := 2) h5 hYJ4 g1 (by omega) y1 pq1 pq2 hH0 x2' (nI w) A2 (nI M2)
        rw [← hH0e, hg_0, if_neg (nI_nlt (b := 0) (Nat.zero_le _) (by omega))] at f5
        have x3' : ∀ x, x < 10 → J5 49 x = nI (H0 x) := fun x hx => by rw [x3 49 (by omega) (by omega)]; exact x2' x hx
        have hYJ5 := kY hYJ4 (kI_lay x3)
        have hw1 : rk_while (fun a9 : Int32 × Int32 × Int32 × rk_I => f_X10_hangs_l43 a9.2.2.2 (nI g) (nI y) (nI w) a9.1 a9.2.1 a9.2.2.1) (-1, 0, 0, J2) = some (A2, nI M2, nI 3, J5) := by
          refine (rk_while_in (f := fun a9 : Int32 × Int32 × Int32 × rk_I => f_X10_hangs_l43 a9.2.2.2 (nI g) (nI y) (nI w) a9.1 a9.2.1 a9.2.2.1) (a := (-1, 0, nI 0, J2)) f3).trans ?_
          refine (rk_while_in (f := fun a9 : Int32 × Int32 × Int32 × rk_I => f_X10_hangs_l43 a9.2.2.2 (nI g) (nI y) (nI w) a9.1 a9.2.1 a9.2.2.1) (a := (A1, nI M1, nI 1, J3)) f4).trans ?_
          refine (rk_while_in (f := fun a9 : Int32 × Int32 × Int32 × rk_I => f_X10_hangs_l43 a9.2.2.2 (nI g) (nI y) (nI w) a9.1 a9.2.1 a9.2.2.1) (a := (A2, nI M2, nI 2, J4)) f5).trans ?_
          refine rk_while_out ?_
          show f_X10_hangs_l43 J5 (nI g) (nI y) (nI w) A2 (nI M2) (nI 3) = _
          unfold f_X10_hangs_l43
          rw [if_pos (by decide)]
        -- the papers
        obtain ⟨⟨z1, z2, z3, J6⟩, f6, x4, x5, x6⟩ := pr_for0 (f := fun a9 : Int32 × Int32 × Int32 × rk_I => f_X10_hangs_l122 a9.2.2.2 (nI g) (nI y) (nI w) a9.1 a9.2.1 a9.2.2.1) (fun k a => a.1 = A2 ∧ a.2.1 = nI M2 ∧ a.2.2.1 = nI k ∧ ∀ q, q ≠ 47 → q ≠ 48 → a.2.2.2 q = J5 q) s (fun b => b.1 = A2 ∧ b.2.1 = nI M2 ∧ ∀ q, q ≠ 47 → q ≠ 48 → b.2.2.2 q = J5 q) (A2, nI M2, 0, J5) ⟨rfl, rfl, rfl, fun _ _ _ => rfl⟩ (by
          rintro k ⟨w1', w2', w3', Q⟩ hk ⟨hx1, hx2, hx3, hx4⟩
          left
          have hx1 : w1' = A2 := hx1
          have hx2 : w2' = nI M2 := hx2
          have hx3 : w3' = nI k := hx3
          subst hx1
          subst hx2
          subst hx3
          have hx4 : ∀ q, q ≠ 47 → q ≠ 48 → Q q = J5 q := hx4
          have hYQ := kY hYJ5 (kI_lay hx4)
          have c0 : ¬ nI s ≤ nI k := nI_ge hk (by omega)
          obtain ⟨-, r39, -, -, -, -, -, r45, -⟩ := hYQ.2.2.1 k hk
          have hcg := (h5.2.2.1 k hk).2.1
          have hc := h5.1
          by_cases hkg : sv k 1 = g
          · have pk1 : lg_L (pp_v sv k) (fun j => ps (pp_v sv k) cv j 1) s g m0 L0 := by
              rw [pp_p]
              obtain ⟨o1, o2, o3, o4⟩ := p1
              exact ⟨o1, o2, fun i hi => by rw [pp_o (by omega)]; exact o3 i hi, fun j hj hjg => o4 j hj (by rw [pp_o (by omega)] at hjg; exact hjg)⟩
            have pk2 : lg_d (fun j => ps (pp_v sv k) cv j 1) m0 L0 y d0 := by rw [pp_p]; exact q2
            obtain ⟨Q1, g1', g2'⟩ := hm_change (pp_B h5 (k := k)) (pp_Y hYQ (k := k)) g1 y1 pk1 pk2 hH0 (fun x hx => by rw [ui_o (by omega), hx4 49 (by omega) (by omega)]; exact x3' x hx)
            rw [pp_H, ← hH0e, hg_0] at g1'
            refine ⟨(w1', nI M2, nI (k + 1), rk_ui Q1 45 k (Q 45 k)), ?_, rfl, rfl, rfl, fun q a b => ?_⟩
            · show f_X10_hangs_l122 Q (nI g) (nI y) (nI w) w1' (nI M2) (nI k) = _
              unfold f_X10_hangs_l122
              rw [hYQ.2.1, if_neg c0, pr_rd (by omega) (by omega), r39, pr_sb, if_pos (by rw [hkg]), pr_rd (by omega) (by omega), pr_sb, pr_wr (by omega) (by omega), pr_sb, g1', pr_b2, pr_wr (by omega) (by omega), pr_sb, if_neg (nI_nlt (b := 0) (Nat.zero_le _) (by omega)), nI_1]
            · show rk_ui Q1 45 k (Q 45 k) q = _
              rw [hg_rest g2' (by omega) q a b]
              exact hx4 q a b
          · refine ⟨(w1', nI M2, nI (k + 1), Q), ?_, rfl, rfl, rfl, hx4⟩
            show f_X10_hangs_l122 Q (nI g) (nI y) (nI w) w1' (nI M2) (nI k) = _
            unfold f_X10_hangs_l122
            rw [hYQ.2.1, if_neg c0, pr_rd (by omega) (by omega), r39, pr_sb, if_neg (fun e => hkg ((nI_eq (by omega) (by omega)).mp e)), nI_1]) (by
          rintro ⟨w1', w2', w3', Q⟩ ⟨hx1, hx2, hx3, hx4⟩
          have hx3 : w3' = nI s := hx3
          subst hx3
          have hx4 : ∀ q, q ≠ 47 → q ≠ 48 → Q q = J5 q := hx4
          refine ⟨(w1', w2', nI s, Q), ?_, hx1, hx2, hx4⟩
          show f_X10_hangs_l122 Q (nI g) (nI y) (nI w) w1' w2' (nI s) = _
          unfold f_X10_hangs_l122
          rw [hx4 31 (by omega) (by omega), hYJ5.2.1, if_pos (nI_le (Nat.le_refl _) (by omega))])
        have x4 : z1 = A2 := x4
        have x5 : z2 = nI M2 := x5
        have x6 : ∀ q, q ≠ 47 → q ≠ 48 → J6 q = J5 q := x6
        subst x4
        subst x5
        have kFin : kI I4 J6 := kI_t kJ2 (kI_t (kI_lay x1) (kI_t (kI_lay x2) (kI_t (kI_lay x3) (kI_lay x6))))
        have mx : rk_max (nI N1) (nI N2) = nI (max N1 N2) := pr_max _ _ (by omega) (by omega)
        -- what both answer
        obtain ⟨V, hV1, hV2⟩ : ∃ V : Int32, (if nI (max N1 N2) = 0 then some (-1, I4, R4) else if nI w = 1 then some (nI (max N1 N2), I4, R4) else if nI N1 = nI (max N1 N2) then some (0, I4, R4) else some (1, I4, R4)) = some (V, I4, R4) ∧ (if z1 = (-1) then some (z1, J6) else if nI w = 0 then some (z1, J6) else some (nI M2, J6)) = some (V, J6) := by
          by_cases hz : max N1 N2 = 0
          · have e1' : N1 = 0 := by omega
            have e2' : N2 = 0 := by omega
            have hz1 : z1 = -1 := by
              rcases hM2 with ⟨q, -, -⟩ | ⟨-, q, -⟩
              · omega
              · rw [q]
                rcases hM1 with ⟨q', -, -⟩ | ⟨-, q', -⟩
                · omega
                · exact q'
            exact ⟨-1, by rw [hz]; rfl, by rw [hz1]; rfl⟩
          · have c0 : ¬ nI (max N1 N2) = 0 := nI_ne0 (by omega) (by omega)
            rw [if_neg c0]
            have hz1 : (N2 ≤ N1 ∧ z1 = 0 ∧ M2 = max N1 N2) ∨ (N1 < N2 ∧ z1 = 1 ∧ M2 = max N1 N2) := by
              rcases hM1 with ⟨a1, a2, a3⟩ | ⟨a1, a2, a3⟩
              · rcases hM2 with ⟨b1, b2, b3⟩ | ⟨b1, b2, b3⟩
                · exact Or.inr ⟨by omega, b2, by omega⟩
                · exact Or.inl ⟨by omega, b2.trans a2, by omega⟩
              · rcases hM2 with ⟨b1, b2, b3⟩ | ⟨b1, b2, b3⟩
                · exact Or.inr ⟨by omega, b2, by omega⟩
                · omega
            have hzn : ¬ z1 = -1 := by
              rcases hz1 with ⟨-, q, -⟩ | ⟨-, q, -⟩ <;> rw [q] <;> decide
            have hM : M2 = max N1 N2 := by
              rcases hz1 with ⟨-, -, q⟩ | ⟨-, -, q⟩ <;> exact q
            rw [if_neg hzn, hM]
            rcases (by omega : w = 0 ∨ w = 1) with rfl | rfl
            · rcases hz1 with ⟨q1, q, -⟩ | ⟨q1, q, -⟩
              · refine ⟨0, ?_, ?_⟩
                · rw [if_neg (by decide), if_pos (by rw [Nat.max_eq_left q1])]
                · rw [if_pos (by decide), q]
              · refine ⟨1, ?_, ?_⟩
                · have hne : ¬ nI N1 = nI (max N1 N2) := fun z => by have := (nI_eq (by omega) (by omega)).mp z; omega
                  rw [if_neg (by decide), if_neg hne]
                · rw [if_pos (by decide), q]
            · refine ⟨nI (max N1 N2), ?_, ?_⟩
              · rw [if_pos (by decide)]
              · rw [if_neg (by decide)]
        refine ⟨V, I4, R4, J6, ?_, ?_, iv_k h' (kI_t kI4 kFin) kR4⟩
        · have hj : f_X9_hangs_j31 S I R (nI y) (nI w) (oc g) = some (V, I4, R4) := by
            unfold f_X9_hangs_j31
            rw [eK, pr_b2, ck, pr_sb, e3, pr_b3, e4, pr_b3, ← hN1, ← hN2, mx]
            exact hV1
          unfold f_X9_hangs
          rw [g3, pr_sb, pr_oc1, y3, pr_sb, if_neg (by decide)]
          rcases (by omega : w = 0 ∨ w = 1) with rfl | rfl
          · rw [if_pos (by decide)]
            exact hj
          · rw [if_neg (by decide), if_pos (by decide)]
            exact hj
        · unfold f_X10_hangs
          rw [g4 I4 kI4, pr_sb, if_neg (by decide), y4, pr_sb, if_neg (by decide), w3, pr_sb, if_neg (by decide), eJ, pr_sb, hw1, pr_b4, f6, pr_b4]
          exact hV2
      · refine bad ?_ ?_
        · unfold f_X9_hangs
          rw [g3, pr_sb, pr_oc1, y3, pr_sb, if_neg (by decide), if_neg w1, if_neg w2]
        · unfold f_X10_hangs
          rw [g4 I (kI_r _), pr_sb, if_neg (by decide), y4, pr_sb, if_neg (by decide), w3]
          rfl
    · refine bad ?_ ?_
      · unfold f_X9_hangs
        rw [g3, pr_sb, pr_oc1, y3]
        rfl
      · unfold f_X10_hangs
        rw [g4 I (kI_r _), pr_sb, if_neg (by decide), y4]
        rfl
  · refine bad ?_ ?_
    · unfold f_X9_hangs
      rw [g3]
      rfl
    · unfold f_X10_hangs
      rw [g4 I (kI_r _)]
      rfl
