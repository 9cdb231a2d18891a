noncomputable def f_X9_sales_l69 (n : Nat) (S : rk_Sh) (I : rk_I) (J : rk_J) (R : rk_R) (u4 : Int32) (u5 : Nat) (s6 : Int32) (s7 : Int32) (s8 : Int32) : Option ((Int32 × Int32 × Int32 × Nat × rk_Sh × rk_I × rk_J × rk_R) ⊕ ((Int32 × Int32 × Int32 × Nat × rk_Sh × rk_I × rk_J × rk_R) ⊕ (Int32 × Nat × rk_Sh × rk_I × rk_J × rk_R))) :=
if u4 ≤ s8 then (
some (.inr (.inl (s6, s7, s8, n, S, I, J, R)))) else (
(rk_ck S u5 6 3).bind fun _ =>
(f_X6_has I u5 s7 5).bind fun x1 =>
if x1 = 0 then (
some (.inr (.inr ((-12), n, S, I, J, R)))) else (
(some (R u5 0)).bind fun q1 =>
(q1).bind fun o1 =>
(rk_rdD S I o1 s7).bind fun x2 =>
(rk_rdD S I o1 (s7 + 1)).bind fun x3 =>
(rk_rdD S I o1 (s7 + 2)).bind fun x4 =>
(rk_rdD S I o1 (s7 + 3)).bind fun x5 =>
(rk_rdD S I o1 (s7 + 4)).bind fun x6 =>
rk_b6 (f_X9_sale n S I J R x2 x3 x4 x5 x6) fun x7 n1 S1 I1 J1 R1 =>
if x7 < 0 then (
some (.inl (s6, (s7 + 5), (s8 + 1), n1, S1, I1, J1, R1))) else (
some (.inl ((s6 + 1), (s7 + 5), (s8 + 1), n1, S1, I1, J1, R1)))))
theorem b_X9_sales_l69 {G : rk_G} {l : Launch} {d kc ks : Nat} {n : Nat} {S : rk_Sh} {I : rk_I} {J : rk_J} {R : rk_R} {Q : rk_Q} {u4 : Int32} {u5 : Nat} {s6 : Int32} {s7 : Int32} {s8 : Int32} {r : (Int32 × Int32 × Int32 × Nat × rk_Sh × rk_I × rk_J × rk_R) ⊕ ((Int32 × Int32 × Int32 × Nat × rk_Sh × rk_I × rk_J × rk_R) ⊕ (Int32 × Nat × rk_Sh × rk_I × rk_J × rk_R))} (hd : 3 ≤ d) (hL : rk_LC S R) (hf : f_X9_sales_l69 n S I J R u4 u5 s6 s7 s8 = some r) (hc : ∀ (w0 : Int32) (w1 : Int32) (w2 : Int32) (n9 : Nat) (S9 : rk_Sh) (I9 : rk_I) (J9 : rk_J) (R9 : rk_R), r = .inl (w0, w1, w2, n9, S9, I9, J9, R9) → rk_LC S9 R9 → AW G l yX9_sales cX9_sales 10 (some .int) d kc ks 69 [some (.ref 0), none, none, none, some (.int u4), some (.ref u5), some (.int w0), some (.int w1), some (.int w2), none] [] n9 S9 I9 J9 R9 Q) (he : ∀ (w0 : Int32) (w1 : Int32) (w2 : Int32) (n9 : Nat) (S9 : rk_Sh) (I9 : rk_I) (J9 : rk_J) (R9 : rk_R), r = .inr (.inl (w0, w1, w2, n9, S9, I9, J9, R9)) → rk_LC S9 R9 → AW G l yX9_sales cX9_sales 10 (some .int) d kc ks 149 [some (.ref 0), none, none, none, some (.int u4), some (.ref u5), some (.int w0), some (.int w1), some (.int w2), none] [] n9 S9 I9 J9 R9 Q) (hq : ∀ (v9 : Int32) (n9 : Nat) (S9 : rk_Sh) (I9 : rk_I) (J9 : rk_J) (R9 : rk_R), r = .inr (.inr (v9, n9, S9, I9, J9, R9)) → rk_LC S9 R9 → Q (some (.int v9)) n9 S9 I9 J9 R9) :
    AW G l yX9_sales cX9_sales 10 (some .int) d (kc + 1) (ks + 11) 69 [some (.ref 0), none, none, none, some (.int u4), some (.ref u5), some (.int s6), some (.int s7), some (.int s8), none] [] n S I J R Q := by
  unfold f_X9_sales_l69 at hf
  refine AW_iload_8 dX9_sales_69 ?_
  refine AW_iload_4 dX9_sales_71 ?_
  refine AW_icmp_ge 149 dX9_sales_73 (by decide) (fun h1 => ?_) (fun h1 => ?_)
  · replace hf := rk_it hf h1
    refine AW_sb (rk_sbs (rk_sbn (rk_sbn (rk_sbn (rk_sbs (rk_sbs (rk_sbs (rk_sbs (rk_sbs (rk_sbn rk_sb0)))))))))) ?_
    refine AW_wid (a := 1) (b := 11) ?_
    exact he _ _ _ _ _ _ _ _ (Option.some.inj hf).symm hL
  · replace hf := rk_if hf h1
    refine AW_aload_5 dX9_sales_76 ?_
    refine AW_iload_7 dX9_sales_78 ?_
    refine AW_iconst (v := 5) dX9_sales_80 (by decide) ?_
    replace hf := rk_bd hf
    obtain ⟨_, e1, hf⟩ := hf
    have e1 := rk_ck_sp e1
    replace hf := rk_bd hf
    obtain ⟨x1, e2, hf⟩ := hf
    refine AW_iV2iz (w_X6_has (d := 0) e1 e2) dX9_sales_81 kl_X9_300 e1 rfl (Nat.le_trans (by decide) hd) (by decide) (Nat.le_of_ble_eq_true rfl) (fun _ => ?_)
    refine AW_if_ne 90 dX9_sales_84 (by decide) (fun h2 => ?_) (fun h2 => ?_)
    · replace hf := rk_if hf h2
      refine AW_aload_5 dX9_sales_90 ?_
      replace hf := rk_bd hf
      obtain ⟨q1, e3, hf⟩ := hf
      refine AW_getQ dX9_sales_92 kf_X9_303 rfl e1 (by decide) e3 ?_
      refine AW_astoreO_9 dX9_sales_95 (by decide) rfl ?_
      refine AW_aload_n0 dX9_sales_97 ?_
      refine AW_aloadO_9 dX9_sales_98 ?_
      refine AW_iload_7 dX9_sales_100 ?_
      replace hf := rk_bd hf
      obtain ⟨o1, e4, hf⟩ := hf
      subst e4
      replace hf := rk_bd hf
      obtain ⟨x2, e5, hf⟩ := hf
      refine AW_rdD dX9_sales_102 e5 ?_
      refine AW_aload_9 dX9_sales_103 ?_
      refine AW_iload_7 dX9_sales_105 ?_
      refine AW_iconst (v := 1) dX9_sales_107 (by decide) ?_
      refine AW_iadd dX9_sales_108 ?_
      replace hf := rk_bd hf
      obtain ⟨x3, e6, hf⟩ := hf
      refine AW_rdD dX9_sales_109 e6 ?_
      refine AW_aload_9 dX9_sales_110 ?_
      refine AW_iload_7 dX9_sales_112 ?_
      refine AW_iconst (v := 2) dX9_sales_114 (by decide) ?_
      refine AW_iadd dX9_sales_115 ?_
      replace hf := rk_bd hf
      obtain ⟨x4, e7, hf⟩ := hf
      refine AW_rdD dX9_sales_116 e7 ?_
      refine AW_aload_9 dX9_sales_117 ?_
      refine AW_iload_7 dX9_sales_119 ?_
      refine AW_iconst (v := 3) dX9_sales_121 (by decide) ?_
      refine AW_iadd dX9_sales_122 ?_
      replace hf := rk_bd hf
      obtain ⟨x5, e8, hf⟩ := hf
      refine AW_rdD dX9_sales_123 e8 ?_
      refine AW_aload_9 dX9_sales_124 ?_
      refine AW_iload_7 dX9_sales_126 ?_
      refine AW_iconst (v := 4) dX9_sales_128 (by decide) ?_
      refine AW_iadd dX9_sales_129 ?_
      replace hf := rk_bd hf
      obtain ⟨x6, e9, hf⟩ := hf
      refine AW_rdD dX9_sales_130 e9 ?_
      replace hf := rk_bd6 hf
      obtain ⟨x7, n1, S1, I1, J1, R1, e10, hf⟩ := hf
      refine AW_iV5i (kc := kc) (ks := ks) (w_X9_sale (d := 2) (Nat.le_refl _) hL e10) dX9_sales_131 kl_X9_312 (hL.1 0 (by decide)) rfl (Nat.le_trans (by decide) hd) (by decide) (Nat.le_of_ble_eq_true rfl) (fun hL1 => ?_)
      refine AW_if_lt 140 dX9_sales_134 (by decide) (fun h3 => ?_) (fun h3 => ?_)
      · replace hf := rk_it hf h3
        refine AW_iinc_7 (v := 5) dX9_sales_140 (by decide) (by decide) rfl ?_
        refine AW_iinc_8 (v := 1) dX9_sales_143 (by decide) (by decide) rfl ?_
        refine AW_goto 69 dX9_sales_146 (by decide) ?_
        refine AW_sb (rk_sbs (rk_sbn (rk_sbn (rk_sbn (rk_sbs (rk_sbs (rk_sbs (rk_sbs (rk_sbs (rk_sbn rk_sb0)))))))))) ?_
        exact hc _ _ _ _ _ _ _ _ (Option.some.inj hf).symm hL1
      · replace hf := rk_if hf h3
        refine AW_iinc_6 (v := 1) dX9_sales_137 (by decide) (by decide) rfl ?_
        refine AW_iinc_7 (v := 5) dX9_sales_140 (by decide) (by decide) rfl ?_
        refine AW_iinc_8 (v := 1) dX9_sales_143 (by decide) (by decide) rfl ?_
        refine AW_goto 69 dX9_sales_146 (by decide) ?_
        refine AW_sb (rk_sbs (rk_sbn (rk_sbn (rk_sbn (rk_sbs (rk_sbs (rk_sbs (rk_sbs (rk_sbs (rk_sbn rk_sb0)))))))))) ?_
        exact hc _ _ _ _ _ _ _ _ (Option.some.inj hf).symm hL1
    · replace hf := rk_it hf h2
      refine AW_bipush (v := (-12)) dX9_sales_87 (by decide) ?_
      exact AW_iret dX9_sales_89 rfl (hq _ _ _ _ _ _ (Option.some.inj hf).symm hL)
theorem L_X9_sales_w69 {G : rk_G} {l : Launch} {d kc ks : Nat}  {Q : rk_Q} {u4 : Int32} {u5 : Nat} {r : (Int32 × Int32 × Int32 × Nat × rk_Sh × rk_I × rk_J × rk_R) ⊕ (Int32 × Nat × rk_Sh × rk_I × rk_J × rk_R)} (hd : 3 ≤ d) (he : ∀ (w0 : Int32) (w1 : Int32) (w2 : Int32) (n9 : Nat) (S9 : rk_Sh) (I9 : rk_I) (J9 : rk_J) (R9 : rk_R), r = .inl (w0, w1, w2, n9, S9, I9, J9, R9) → rk_LC S9 R9 → AW G l yX9_sales cX9_sales 10 (some .int) d kc ks 149 [some (.ref 0), none, none, none, some (.int u4), some (.ref u5), some (.int w0), some (.int w1), some (.int w2), none] [] n9 S9 I9 J9 R9 Q) (hq : ∀ (v9 : Int32) (n9 : Nat) (S9 : rk_Sh) (I9 : rk_I) (J9 : rk_J) (R9 : rk_R), r = .inr (v9, n9, S9, I9, J9, R9) → rk_LC S9 R9 → Q (some (.int v9)) n9 S9 I9 J9 R9) :
    ∀ (m9 : Nat) (s6 : Int32) (s7 : Int32) (s8 : Int32) (n : Nat) (S : rk_Sh) (I : rk_I) (J : rk_J) (R : rk_R), rk_loop (fun a9 => f_X9_sales_l69 a9.2.2.2.1 a9.2.2.2.2.1 a9.2.2.2.2.2.1 a9.2.2.2.2.2.2.1 a9.2.2.2.2.2.2.2 u4 u5 a9.1 a9.2.1 a9.2.2.1) m9 (s6, s7, s8, n, S, I, J, R) = some r → rk_LC S R → AW G l yX9_sales cX9_sales 10 (some .int) d (kc + 1 * m9) (ks + 11 * m9) 69 [some (.ref 0), none, none, none, some (.int u4), some (.ref u5), some (.int s6), some (.int s7), some (.int s8), none] [] n S I J R Q := by
  intro m9
  induction m9 with
  | zero => intro s6 s7 s8 n S I J R hf; cases hf
  | succ m9 ih =>
    intro s6 s7 s8 n S I J R hf hL
    obtain ⟨r9, hf, hr⟩ := rk_loop_s hf
    rw [show kc + 1 * (m9 + 1) = (kc + 1 * m9) + 1 from by omega, show ks + 11 * (m9 + 1) = (ks + 11 * m9) + 11 from by omega]
    exact b_X9_sales_l69 hd hL hf (fun _ _ _ _ _ _ _ _ h9 hl9 => by subst h9; exact ih _ _ _ _ _ _ _ _ hr hl9) (fun _ _ _ _ _ _ _ _ h9 hl9 => by subst h9; exact AW_wid (a := 1 * m9) (b := 11 * m9) (he _ _ _ _ _ _ _ _ hr.symm hl9)) (fun _ _ _ _ _ _ h9 hl9 => by subst h9; exact hq _ _ _ _ _ _ hr.symm hl9)
noncomputable def f_X9_sales (n : Nat) (S : rk_Sh) (I : rk_I) (J : rk_J) (R : rk_R) (a1 : Int32) (a2 : Int32) (a3 : Int32) (a4 : Int32) : Option (Int32 × Nat × rk_Sh × rk_I × rk_J × rk_R) :=
(f_X9_sheetAt R a1).bind fun q1 =>
rk_oc q1 (
some ((-2), n, S, I, J, R)) (fun o1 => (
if a2 < 0 then (
some ((-2), n, S, I, J, R)) else (
if 3 ≤ a2 then (
some ((-2), n, S, I, J, R)) else (
if a4 < 0 then (
some ((-2), n, S, I, J, R)) else (
if a4 ≤ 8 then (
(rk_ck S o1 6 3).bind fun _ =>
if (I o1 1) = (-1) then (
some ((-11), n, S, I, J, R)) else (
if (I o1 1) = a2 then (
(rk_loop (fun a9 => f_X9_sales_l69 a9.2.2.2.1 a9.2.2.2.2.1 a9.2.2.2.2.2.1 a9.2.2.2.2.2.2.1 a9.2.2.2.2.2.2.2 a4 o1 a9.1 a9.2.1 a9.2.2.1) 9 (0, a3, 0, n, S, I, J, R)).bind fun q9 => rk_sc q9 (fun b9 => rk_p8 b9 (fun x1 x2 x3 n1 S1 I1 J1 R1 => (
some (x1, n1, S1, I1, J1, R1)))) (fun q8 => some q8)) else (
some ((-13), n, S, I, J, R)))) else (
some ((-2), n, S, I, J, R)))))))
theorem b_X9_sales {G : rk_G} {l : Launch} {d : Nat} {n : Nat} {S : rk_Sh} {I : rk_I} {J : rk_J} {R : rk_R} {Q : rk_Q} {a1 : Int32} {a2 : Int32} {a3 : Int32} {a4 : Int32} {r : Int32 × Nat × rk_Sh × rk_I × rk_J × rk_R} (hd : 3 ≤ d) (hL : rk_LC S R) (hf : f_X9_sales n S I J R a1 a2 a3 a4 = some r) (hq : ∀ (v9 : Int32) (n9 : Nat) (S9 : rk_Sh) (I9 : rk_I) (J9 : rk_J) (R9 : rk_R), r = (v9, n9, S9, I9, J9, R9) → rk_LC S9 R9 → Q (some (.int v9)) n9 S9 I9 J9 R9) :
    AW G l yX9_sales cX9_sales 10 (some .int) d 9 99 0 [some (.ref 0), some (.int a1), some (.int a2), some (.int a3), some (.int a4), none, none, none, none, none] [] n S I J R Q := by
  unfold f_X9_sales at hf
  refine AW_aload_n0 dX9_sales_0 ?_
  refine AW_iload_n1 dX9_sales_1 ?_
  replace hf := rk_bd hf
  obtain ⟨q1, e1, hf⟩ := hf
  refine AW_iV1oz (w_X9_sheetAt (d := 0) hL e1) dX9_sales_2 kl_X9_286 (hL.1 0 (by decide)) rfl (Nat.le_trans (by decide) hd) (by decide) (Nat.le_of_ble_eq_true rfl) (fun _ => ?_)
  refine AW_astoreO_5 dX9_sales_5 (by decide) rfl ?_
  refine AW_aloadO_5 dX9_sales_7 ?_
  rcases q1 with _ | o1
  · replace hf := rk_oc_n hf
    refine AW_ifnullN 33 dX9_sales_9 (by decide) ?_
    refine AW_bipush (v := (-2)) dX9_sales_33 (by decide) ?_
    exact AW_iret dX9_sales_35 rfl (hq _ _ _ _ _ _ (Option.some.inj hf).symm hL)
  · replace hf := rk_oc_s hf
    refine AW_ifnull dX9_sales_9 ?_
    refine AW_iload_n2 dX9_sales_12 ?_
    refine AW_if_lt 33 dX9_sales_13 (by decide) (fun h1 => ?_) (fun h1 => ?_)
    · replace hf := rk_it hf h1
      refine AW_bipush (v := (-2)) dX9_sales_33 (by decide) ?_
      exact AW_iret dX9_sales_35 rfl (hq _ _ _ _ _ _ (Option.some.inj hf).symm hL)
    · replace hf := rk_if hf h1
      refine AW_iload_n2 dX9_sales_16 ?_
      refine AW_iconst (v := 3) dX9_sales_17 (by decide) ?_
      refine AW_icmp_ge 33 dX9_sales_18 (by decide) (fun h2 => ?_) (fun h2 => ?_)
      · replace hf := rk_it hf h2
        refine AW_bipush (v := (-2)) dX9_sales_33 (by decide) ?_
        exact AW_iret dX9_sales_35 rfl (hq _ _ _ _ _ _ (Option.some.inj hf).symm hL)
      · replace hf := rk_if hf h2
        refine AW_iload_4 dX9_sales_21 ?_
        refine AW_if_lt 33 dX9_sales_23 (by decide) (fun h3 => ?_) (fun h3 => ?_)
        · replace hf := rk_it hf h3
          refine AW_bipush (v := (-2)) dX9_sales_33 (by decide) ?_
          exact AW_iret dX9_sales_35 rfl (hq _ _ _ _ _ _ (Option.some.inj hf).symm hL)
        · replace hf := rk_if hf h3
          refine AW_iload_4 dX9_sales_26 ?_
          refine AW_bipush (v := 8) dX9_sales_28 (by decide) ?_
          refine AW_icmp_le 36 dX9_sales_30 (by decide) (fun h4 => ?_) (fun h4 => ?_)
          · replace hf := rk_it hf h4
            refine AW_aload_5 dX9_sales_36 ?_
            replace hf := rk_bd hf
            obtain ⟨_, e2, hf⟩ := hf
            have e2 := rk_ck_sp e2
            refine AW_getI dX9_sales_38 kf_X9_294 rfl e2 (by decide) ?_
            refine AW_iconst (v := (-1)) dX9_sales_41 (by decide) ?_
            refine AW_icmp_ne 48 dX9_sales_42 (by decide) (fun h5 => ?_) (fun h5 => ?_)
            · replace hf := rk_if hf h5
              refine AW_aload_5 dX9_sales_48 ?_
              refine AW_getI dX9_sales_50 kf_X9_294 rfl e2 (by decide) ?_
              refine AW_iload_n2 dX9_sales_53 ?_
              refine AW_icmp_eq 60 dX9_sales_54 (by decide) (fun h6 => ?_) (fun h6 => ?_)
              · replace hf := rk_it hf h6
                refine AW_iconst (v := 0) dX9_sales_60 (by decide) ?_
                refine AW_istore_6 dX9_sales_61 (by decide) rfl ?_
                refine AW_iload_n3 dX9_sales_63 ?_
                refine AW_istore_7 dX9_sales_64 (by decide) rfl ?_
                refine AW_iconst (v := 0) dX9_sales_66 (by decide) ?_
                refine AW_istore_8 dX9_sales_67 (by decide) rfl ?_
                refine AW_sb (rk_sbs (rk_sbn (rk_sbn (rk_sbn (rk_sbs (rk_sbs (rk_sbs (rk_sbs (rk_sbs (rk_sbn rk_sb0)))))))))) ?_
                replace hf := rk_bd hf
                obtain ⟨q9, e3, hf⟩ := hf
                refine L_X9_sales_w69 (kc := 0) (ks := 0) (Nat.le_trans (by decide) hd) ?_ ?_ 9 _ _ _ _ _ _ _ _ e3 hL
                · intro x1 x2 x3 n1 S1 I1 J1 R1 h9 hL1
                  subst h9
                  replace hf := rk_scp8 hf
                  refine AW_iload_6 dX9_sales_149 ?_
                  exact AW_iret dX9_sales_151 rfl (hq _ _ _ _ _ _ (Option.some.inj hf).symm hL1)
                · intro v7 n7 S7 I7 J7 R7 h9 hl7
                  subst h9
                  replace hf := rk_sc_r hf
                  exact hq _ _ _ _ _ _ (Option.some.inj hf).symm hl7
              · replace hf := rk_if hf h6
                refine AW_bipush (v := (-13)) dX9_sales_57 (by decide) ?_
                exact AW_iret dX9_sales_59 rfl (hq _ _ _ _ _ _ (Option.some.inj hf).symm hL)
            · replace hf := rk_it hf h5
              refine AW_bipush (v := (-11)) dX9_sales_45 (by decide) ?_
              exact AW_iret dX9_sales_47 rfl (hq _ _ _ _ _ _ (Option.some.inj hf).symm hL)
          · replace hf := rk_if hf h4
            refine AW_bipush (v := (-2)) dX9_sales_33 (by decide) ?_
            exact AW_iret dX9_sales_35 rfl (hq _ _ _ _ _ _ (Option.some.inj hf).symm hL)
theorem w_X9_sales {G : rk_G} {l : Launch} {d : Nat} {n : Nat} {S : rk_Sh} {I : rk_I} {J : rk_J} {R : rk_R} {a1 : Int32} {a2 : Int32} {a3 : Int32} {a4 : Int32} {v8 : Int32} {n8 : Nat} {S8 : rk_Sh} {I8 : rk_I} {J8 : rk_J} {R8 : rk_R} (hd : 3 ≤ d) (hL : rk_LC S R) (hf : f_X9_sales n S I J R a1 a2 a3 a4 = some (v8, n8, S8, I8, J8, R8)) :
    CW G l yX9_sales cX9_sales 10 (some .int) d 9 99 [.ref 0, .int a1, .int a2, .int a3, .int a4] n S I J R (rk_qi v8 n8 S8 I8 J8 R8 (rk_LC S8 R8)) :=
  CW.of (by decide +kernel) (Nat.le_of_ble_eq_true rfl) (rk_sbs (rk_sbs (rk_sbs (rk_sbs (rk_sbs (rk_sbe (rk_sbe (rk_sbe (rk_sbe (rk_sbe rk_sb0)))))))))) (b_X9_sales hd hL hf (fun v9 n9 S9 I9 J9 R9 h9 hl9 => by cases h9; exact ⟨rfl, rfl, rfl, rfl, rfl, rfl, hl9⟩))
noncomputable def f_X10_sales_l75 (I : rk_I) (u1 : Int32) (u3 : Int32) (u4 : Int32) (s5 : Int32) (s6 : Int32) : Option ((Int32 × Int32 × rk_I) ⊕ ((Int32 × Int32 × rk_I) ⊕ (Int32 × rk_I))) :=
if u4 ≤ s6 then (
some (.inr (.inl (s5, s6, I)))) else (
if u3 < 0 then (
some (.inr (.inr ((-12), I)))) else (
(rk_rd I 55 4 u1).bind fun x1 =>
if u3 ≤ ((x1 - (5 * s6)) - 5) then (
(rk_rd I 56 160 (((40 * u1) + u3) + (5 * s6))).bind fun x2 =>
(rk_rd I 56 160 ((((40 * u1) + u3) + (5 * s6)) + 1)).bind fun x3 =>
(rk_rd I 56 160 ((((40 * u1) + u3) + (5 * s6)) + 2)).bind fun x4 =>
(rk_rd I 56 160 ((((40 * u1) + u3) + (5 * s6)) + 3)).bind fun x5 =>
(rk_rd I 56 160 ((((40 * u1) + u3) + (5 * s6)) + 4)).bind fun x6 =>
rk_b2 (f_X10_sale I x2 x3 x4 x5 x6) fun x7 I1 =>
if x7 < 0 then (
some (.inl ((s5 + 0), (s6 + 1), I1))) else (
some (.inl ((s5 + 1), (s6 + 1), I1)))) else (
some (.inr (.inr ((-12), I))))))
theorem b_X10_sales_l75 {G : rk_G} {l : Launch} {d kc ks : Nat} {n : Nat} {S : rk_Sh} {I : rk_I} {J : rk_J} {R : rk_R} {Q : rk_Q} {u1 : Int32} {u3 : Int32} {u4 : Int32} {s5 : Int32} {s6 : Int32} {r : (Int32 × Int32 × rk_I) ⊕ ((Int32 × Int32 × rk_I) ⊕ (Int32 × rk_I))} (hd : 3 ≤ d) (hM : rk_LM S R) (hf : f_X10_sales_l75 I u1 u3 u4 s5 s6 = some r) (hc : ∀ (w0 : Int32) (w1 : Int32) (I9 : rk_I), r = .inl (w0, w1, I9) → AW G l yX10_sales cX10_sales 8 (some .int) d kc ks 75 [some (.ref 31), some (.int u1), none, some (.int u3), some (.int u4), some (.int w0), some (.int w1), none] [] n S I9 J R Q) (he : ∀ (w0 : Int32) (w1 : Int32) (I9 : rk_I), r = .inr (.inl (w0, w1, I9)) → AW G l yX10_sales cX10_sales 8 (some .int) d kc ks 185 [some (.ref 31), some (.int u1), none, some (.int u3), some (.int u4), some (.int w0), some (.int w1), none] [] n S I9 J R Q) (hq : ∀ (v9 : Int32) (I9 : rk_I), r = .inr (.inr (v9, I9)) → Q (some (.int v9)) n S I9 J R) :
    AW G l yX10_sales cX10_sales 8 (some .int) d kc ks 75 [some (.ref 31), some (.int u1), none, some (.int u3), some (.int u4), some (.int s5), some (.int s6), none] [] n S I J R Q := by
  unfold f_X10_sales_l75 at hf
  refine AW_iload_6 dX10_sales_75 ?_
  refine AW_iload_4 dX10_sales_77 ?_
  refine AW_icmp_ge 185 dX10_sales_79 (by decide) (fun h1 => ?_) (fun h1 => ?_)
  · replace hf := rk_it hf h1
    refine AW_sb (rk_sbs (rk_sbs (rk_sbn (rk_sbs (rk_sbs (rk_sbs (rk_sbs (rk_sbn rk_sb0)))))))) ?_
    exact he _ _ _ (Option.some.inj hf).symm
  · replace hf := rk_if hf h1
    refine AW_iload_n3 dX10_sales_82 ?_
    refine AW_if_lt 103 dX10_sales_83 (by decide) (fun h2 => ?_) (fun h2 => ?_)
    · replace hf := rk_it hf h2
      refine AW_bipush (v := (-12)) dX10_sales_103 (by decide) ?_
      exact AW_iret dX10_sales_105 rfl (hq _ _ (Option.some.inj hf).symm)
    · replace hf := rk_if hf h2
      refine AW_iload_n3 dX10_sales_86 ?_
      refine AW_aload_n0 dX10_sales_87 ?_
      refine AW_getR dX10_sales_88 kf_X10_84 rfl (hM.1 31 (by decide) (by decide)) (by decide) (hM.2 31 44 55 rfl) ?_
      refine AW_iload_n1 dX10_sales_91 ?_
      replace hf := rk_bd hf
      obtain ⟨x1, e1, hf⟩ := hf
      refine AW_rd dX10_sales_92 (hM.1 55 (by decide) (by decide)) e1 ?_
      refine AW_iconst (v := 5) dX10_sales_93 (by decide) ?_
      refine AW_iload_6 dX10_sales_94 ?_
      refine AW_imul dX10_sales_96 ?_
      refine AW_isub dX10_sales_97 ?_
      refine AW_iconst (v := 5) dX10_sales_98 (by decide) ?_
      refine AW_isub dX10_sales_99 ?_
      refine AW_icmp_le 106 dX10_sales_100 (by decide) (fun h3 => ?_) (fun h3 => ?_)
      · replace hf := rk_it hf h3
        refine AW_bipush (v := 40) dX10_sales_106 (by decide) ?_
        refine AW_iload_n1 dX10_sales_108 ?_
        refine AW_imul dX10_sales_109 ?_
        refine AW_iload_n3 dX10_sales_110 ?_
        refine AW_iadd dX10_sales_111 ?_
        refine AW_iconst (v := 5) dX10_sales_112 (by decide) ?_
        refine AW_iload_6 dX10_sales_113 ?_
        refine AW_imul dX10_sales_115 ?_
        refine AW_iadd dX10_sales_116 ?_
        refine AW_istore_7 dX10_sales_117 (by decide) rfl ?_
        refine AW_iload_5 dX10_sales_119 ?_
        refine AW_aload_n0 dX10_sales_121 ?_
        refine AW_aload_n0 dX10_sales_122 ?_
        refine AW_getR dX10_sales_123 kf_X10_87 rfl (hM.1 31 (by decide) (by decide)) (by decide) (hM.2 31 45 56 rfl) ?_
        refine AW_iload_7 dX10_sales_126 ?_
        replace hf := rk_bd hf
        obtain ⟨x2, e2, hf⟩ := hf
        refine AW_rd dX10_sales_128 (hM.1 56 (by decide) (by decide)) e2 ?_
        refine AW_aload_n0 dX10_sales_129 ?_
        refine AW_getR dX10_sales_130 kf_X10_87 rfl (hM.1 31 (by decide) (by decide)) (by decide) (hM.2 31 45 56 rfl) ?_
        refine AW_iload_7 dX10_sales_133 ?_
        refine AW_iconst (v := 1) dX10_sales_135 (by decide) ?_
        refine AW_iadd dX10_sales_136 ?_
        replace hf := rk_bd hf
        obtain ⟨x3, e3, hf⟩ := hf
        refine AW_rd dX10_sales_137 (hM.1 56 (by decide) (by decide)) e3 ?_
        refine AW_aload_n0 dX10_sales_138 ?_
        refine AW_getR dX10_sales_139 kf_X10_87 rfl (hM.1 31 (by decide) (by decide)) (by decide) (hM.2 31 45 56 rfl) ?_
        refine AW_iload_7 dX10_sales_142 ?_
        refine AW_iconst (v := 2) dX10_sales_144 (by decide) ?_
        refine AW_iadd dX10_sales_145 ?_
        replace hf := rk_bd hf
        obtain ⟨x4, e4, hf⟩ := hf
        refine AW_rd dX10_sales_146 (hM.1 56 (by decide) (by decide)) e4 ?_
        refine AW_aload_n0 dX10_sales_147 ?_
        refine AW_getR dX10_sales_148 kf_X10_87 rfl (hM.1 31 (by decide) (by decide)) (by decide) (hM.2 31 45 56 rfl) ?_
        refine AW_iload_7 dX10_sales_151 ?_
        refine AW_iconst (v := 3) dX10_sales_153 (by decide) ?_
        refine AW_iadd dX10_sales_154 ?_
        replace hf := rk_bd hf
        obtain ⟨x5, e5, hf⟩ := hf
        refine AW_rd dX10_sales_155 (hM.1 56 (by decide) (by decide)) e5 ?_
        refine AW_aload_n0 dX10_sales_156 ?_
        refine AW_getR dX10_sales_157 kf_X10_87 rfl (hM.1 31 (by decide) (by decide)) (by decide) (hM.2 31 45 56 rfl) ?_
        refine AW_iload_7 dX10_sales_160 ?_
        refine AW_iconst (v := 4) dX10_sales_162 (by decide) ?_
        refine AW_iadd dX10_sales_163 ?_
        replace hf := rk_bd hf
        obtain ⟨x6, e6, hf⟩ := hf
        refine AW_rd dX10_sales_164 (hM.1 56 (by decide) (by decide)) e6 ?_
        replace hf := rk_bd2 hf
        obtain ⟨x7, I1, e7, hf⟩ := hf
        refine AW_iV5iz (w_X10_sale (d := 2) (Nat.le_refl _) hM e7) dX10_sales_165 kl_X10_373 (hM.1 31 (by decide) (by decide)) rfl (Nat.le_trans (by decide) hd) (by decide) (Nat.le_of_ble_eq_true rfl) (fun _ => ?_)
        refine AW_if_lt 175 dX10_sales_168 (by decide) (fun h4 => ?_) (fun h4 => ?_)
        · replace hf := rk_it hf h4
          refine AW_iconst (v := 0) dX10_sales_175 (by decide) ?_
          refine AW_iadd dX10_sales_176 ?_
          refine AW_istore_5 dX10_sales_177 (by decide) rfl ?_
          refine AW_iinc_6 (v := 1) dX10_sales_179 (by decide) (by decide) rfl ?_
          refine AW_goto 75 dX10_sales_182 (by decide) ?_
          refine AW_sb (rk_sbs (rk_sbs (rk_sbn (rk_sbs (rk_sbs (rk_sbs (rk_sbs (rk_sbn rk_sb0)))))))) ?_
          exact hc _ _ _ (Option.some.inj hf).symm
        · replace hf := rk_if hf h4
          refine AW_iconst (v := 1) dX10_sales_171 (by decide) ?_
          refine AW_goto 176 dX10_sales_172 (by decide) ?_
          refine AW_iadd dX10_sales_176 ?_
          refine AW_istore_5 dX10_sales_177 (by decide) rfl ?_
          refine AW_iinc_6 (v := 1) dX10_sales_179 (by decide) (by decide) rfl ?_
          refine AW_goto 75 dX10_sales_182 (by decide) ?_
          refine AW_sb (rk_sbs (rk_sbs (rk_sbn (rk_sbs (rk_sbs (rk_sbs (rk_sbs (rk_sbn rk_sb0)))))))) ?_
          exact hc _ _ _ (Option.some.inj hf).symm
      · replace hf := rk_if hf h3
        refine AW_bipush (v := (-12)) dX10_sales_103 (by decide) ?_
        exact AW_iret dX10_sales_105 rfl (hq _ _ (Option.some.inj hf).symm)
theorem L_X10_sales_w75 {G : rk_G} {l : Launch} {d kc ks : Nat} {n : Nat} {S : rk_Sh} {J : rk_J} {R : rk_R} {Q : rk_Q} {u1 : Int32} {u3 : Int32} {u4 : Int32} {r : (Int32 × Int32 × rk_I) ⊕ (Int32 × rk_I)} (hd : 3 ≤ d) (hM : rk_LM S R) (he : ∀ (w0 : Int32) (w1 : Int32) (I9 : rk_I), r = .inl (w0, w1, I9) → AW G l yX10_sales cX10_sales 8 (some .int) d kc ks 185 [some (.ref 31), some (.int u1), none, some (.int u3), some (.int u4), some (.int w0), some (.int w1), none] [] n S I9 J R Q) (hq : ∀ (v9 : Int32) (I9 : rk_I), r = .inr (v9, I9) → Q (some (.int v9)) n S I9 J R) :
    ∀ (m9 : Nat) (s5 : Int32) (s6 : Int32) (I : rk_I), rk_loop (fun a9 => f_X10_sales_l75 a9.2.2 u1 u3 u4 a9.1 a9.2.1) m9 (s5, s6, I) = some r → AW G l yX10_sales cX10_sales 8 (some .int) d kc ks 75 [some (.ref 31), some (.int u1), none, some (.int u3), some (.int u4), some (.int s5), some (.int s6), none] [] n S I J R Q := by
  intro m9
  induction m9 with
  | zero => intro s5 s6 I hf; cases hf
  | succ m9 ih =>
    intro s5 s6 I hf 
    obtain ⟨r9, hf, hr⟩ := rk_loop_s hf
    exact b_X10_sales_l75 hd hM hf (fun _ _ _ h9 => by subst h9; exact ih _ _ _ hr) (fun _ _ _ h9 => by subst h9; exact he _ _ _ hr.symm) (fun _ _ h9 => by subst h9; exact hq _ _ hr.symm)
noncomputable def f_X10_sales_j57 (I : rk_I) (j1 : Int32) (j3 : Int32) (j4 : Int32) : Option (Int32 × rk_I) :=
(rk_rd I 53 4 j1).bind fun x1 =>
if x1 = 0 then (
some ((-11), I)) else (
(rk_while (fun a9 => f_X10_sales_l75 a9.2.2 j1 j3 j4 a9.1 a9.2.1) (0, 0, I)).bind fun q9 => rk_sc q9 (fun b9 => rk_p3 b9 (fun x2 x3 I1 => (
some (x2, I1)))) (fun q8 => some q8))
theorem b_X10_sales_j57 {G : rk_G} {l : Launch} {d kc ks : Nat} {n : Nat} {S : rk_Sh} {I : rk_I} {J : rk_J} {R : rk_R} {Q : rk_Q} {j1 : Int32} {j3 : Int32} {j4 : Int32} {r : Int32 × rk_I} (hd : 3 ≤ d) (hM : rk_LM S R) (hf : f_X10_sales_j57 I j1 j3 j4 = some r) (hq : ∀ (v9 : Int32) (I9 : rk_I), r = (v9, I9) → Q (some (.int v9)) n S I9 J R) :
    AW G l yX10_sales cX10_sales 8 (some .int) d kc ks 57 [some (.ref 31), some (.int j1), none, some (.int j3), some (.int j4), none, none, none] [] n S I J R Q := by
  unfold f_X10_sales_j57 at hf
  refine AW_aload_n0 dX10_sales_57 ?_
  refine AW_getR dX10_sales_58 kf_X10_77 rfl (hM.1 31 (by decide) (by decide)) (by decide) (hM.2 31 42 53 rfl) ?_
  refine AW_iload_n1 dX10_sales_61 ?_
  replace hf := rk_bd hf
  obtain ⟨x1, e1, hf⟩ := hf
  refine AW_rdz dX10_sales_62 (hM.1 53 (by decide) (by decide)) e1 ?_
  refine AW_if_ne 69 dX10_sales_63 (by decide) (fun h1 => ?_) (fun h1 => ?_)
  · replace hf := rk_if hf h1
    refine AW_iconst (v := 0) dX10_sales_69 (by decide) ?_
    refine AW_istore_5 dX10_sales_70 (by decide) rfl ?_
    refine AW_iconst (v := 0) dX10_sales_72 (by decide) ?_
    refine AW_istore_6 dX10_sales_73 (by decide) rfl ?_
    refine AW_sb (rk_sbs (rk_sbs (rk_sbn (rk_sbs (rk_sbs (rk_sbs (rk_sbs (rk_sbn rk_sb0)))))))) ?_
    replace hf := rk_bd hf
    obtain ⟨q9, e2, hf⟩ := hf
    obtain ⟨m1, e2⟩ := rk_while_sp e2
    refine L_X10_sales_w75 (Nat.le_trans (by decide) hd) hM ?_ ?_ m1 _ _ _ e2
    · intro x2 x3 I1 h9
      subst h9
      replace hf := rk_scp3 hf
      refine AW_iload_5 dX10_sales_185 ?_
      exact AW_iret dX10_sales_187 rfl (hq _ _ (Option.some.inj hf).symm)
    · intro v7 I7 h9
      subst h9
      replace hf := rk_sc_r hf
      exact hq _ _ (Option.some.inj hf).symm
  · replace hf := rk_it hf h1
    refine AW_bipush (v := (-11)) dX10_sales_66 (by decide) ?_
    exact AW_iret dX10_sales_68 rfl (hq _ _ (Option.some.inj hf).symm)
noncomputable def f_X10_sales (I : rk_I) (a1 : Int32) (a2 : Int32) (a3 : Int32) (a4 : Int32) : Option (Int32 × rk_I) :=
(f_X10_isSheet a1).bind fun x1 =>
if x1 = 0 then (
some ((-2), I)) else (
(f_X10_in a2.toInt64 0 2).bind fun x2 =>
if x2 = 0 then (
some ((-2), I)) else (
(f_X10_in a4.toInt64 0 8).bind fun x3 =>
if x3 = 0 then (
some ((-2), I)) else (
(rk_rd I 53 4 a1).bind fun x4 =>
if x4 = 0 then (
f_X10_sales_j57 I a1 a3 a4) else (
(rk_rd I 54 4 a1).bind fun x5 =>
if x5 = a2 then (
f_X10_sales_j57 I a1 a3 a4) else (
some ((-13), I))))))
theorem b_X10_sales {G : rk_G} {l : Launch} {d kc ks : Nat} {n : Nat} {S : rk_Sh} {I : rk_I} {J : rk_J} {R : rk_R} {Q : rk_Q} {a1 : Int32} {a2 : Int32} {a3 : Int32} {a4 : Int32} {r : Int32 × rk_I} (hd : 3 ≤ d) (hM : rk_LM S R) (hf : f_X10_sales I a1 a2 a3 a4 = some r) (hq : ∀ (v9 : Int32) (I9 : rk_I), r = (v9, I9) → Q (some (.int v9)) n S I9 J R) :
    AW G l yX10_sales cX10_sales 8 (some .int) d kc ks 0 [some (.ref 31), some (.int a1), some (.int a2), some (.int a3), some (.int a4), none, none, none] [] n S I J R Q := by
  unfold f_X10_sales at hf
  refine AW_iload_n1 dX10_sales_0 ?_
  replace hf := rk_bd hf
  obtain ⟨x1, e1, hf⟩ := hf
  refine AW_iS1iz (w_X10_isSheet (d := 1) (Nat.le_refl _) e1) dX10_sales_1 kl_X10_370 (Nat.le_trans (by decide) hd) (by decide) (Nat.le_of_ble_eq_true rfl) (fun _ => ?_)
  refine AW_if_eq 32 dX10_sales_4 (by decide) (fun h1 => ?_) (fun h1 => ?_)
  · replace hf := rk_it hf h1
    refine AW_bipush (v := (-2)) dX10_sales_32 (by decide) ?_
    exact AW_iret dX10_sales_34 rfl (hq _ _ (Option.some.inj hf).symm)
  · replace hf := rk_if hf h1
    refine AW_iload_n2 dX10_sales_7 ?_
    refine AW_i2l dX10_sales_8 ?_
    refine AW_lconst (v := 0) dX10_sales_9 (by decide) ?_
    refine AW_ldc2 dX10_sales_10 kv_X10_132 ?_
    replace hf := rk_bd hf
    obtain ⟨x2, e2, hf⟩ := hf
    refine AW_iS3iz (w_X10_in (d := 0) e2) dX10_sales_13 kl_X10_114 (Nat.le_trans (by decide) hd) (by decide) (Nat.le_of_ble_eq_true rfl) (fun _ => ?_)
    refine AW_if_eq 32 dX10_sales_16 (by decide) (fun h2 => ?_) (fun h2 => ?_)
    · replace hf := rk_it hf h2
      refine AW_bipush (v := (-2)) dX10_sales_32 (by decide) ?_
      exact AW_iret dX10_sales_34 rfl (hq _ _ (Option.some.inj hf).symm)
    · replace hf := rk_if hf h2
      refine AW_iload_4 dX10_sales_19 ?_
      refine AW_i2l dX10_sales_21 ?_
      refine AW_lconst (v := 0) dX10_sales_22 (by decide) ?_
      refine AW_ldc2 dX10_sales_23 kv_X10_174 ?_
      replace hf := rk_bd hf
      obtain ⟨x3, e3, hf⟩ := hf
      refine AW_iS3iz (w_X10_in (d := 0) e3) dX10_sales_26 kl_X10_114 (Nat.le_trans (by decide) hd) (by decide) (Nat.le_of_ble_eq_true rfl) (fun _ => ?_)
      refine AW_if_ne 35 dX10_sales_29 (by decide) (fun h3 => ?_) (fun h3 => ?_)
      · replace hf := rk_if hf h3
        refine AW_aload_n0 dX10_sales_35 ?_
        refine AW_getR dX10_sales_36 kf_X10_77 rfl (hM.1 31 (by decide) (by decide)) (by decide) (hM.2 31 42 53 rfl) ?_
        refine AW_iload_n1 dX10_sales_39 ?_
        replace hf := rk_bd hf
        obtain ⟨x4, e4, hf⟩ := hf
        refine AW_rdz dX10_sales_40 (hM.1 53 (by decide) (by decide)) e4 ?_
        refine AW_if_eq 57 dX10_sales_41 (by decide) (fun h4 => ?_) (fun h4 => ?_)
        · replace hf := rk_it hf h4
          refine AW_sb (rk_sbs (rk_sbs (rk_sbn (rk_sbs (rk_sbs (rk_sbn (rk_sbn (rk_sbn rk_sb0)))))))) ?_
          exact b_X10_sales_j57 (Nat.le_trans (by decide) hd) hM hf hq
        · replace hf := rk_if hf h4
          refine AW_aload_n0 dX10_sales_44 ?_
          refine AW_getR dX10_sales_45 kf_X10_81 rfl (hM.1 31 (by decide) (by decide)) (by decide) (hM.2 31 43 54 rfl) ?_
          refine AW_iload_n1 dX10_sales_48 ?_
          replace hf := rk_bd hf
          obtain ⟨x5, e5, hf⟩ := hf
          refine AW_rd dX10_sales_49 (hM.1 54 (by decide) (by decide)) e5 ?_
          refine AW_iload_n2 dX10_sales_50 ?_
          refine AW_icmp_eq 57 dX10_sales_51 (by decide) (fun h5 => ?_) (fun h5 => ?_)
          · replace hf := rk_it hf h5
            refine AW_sb (rk_sbs (rk_sbs (rk_sbn (rk_sbs (rk_sbs (rk_sbn (rk_sbn (rk_sbn rk_sb0)))))))) ?_
            exact b_X10_sales_j57 (Nat.le_trans (by decide) hd) hM hf hq
          · replace hf := rk_if hf h5
            refine AW_bipush (v := (-13)) dX10_sales_54 (by decide) ?_
            exact AW_iret dX10_sales_56 rfl (hq _ _ (Option.some.inj hf).symm)
      · replace hf := rk_it hf h3
        refine AW_bipush (v := (-2)) dX10_sales_32 (by decide) ?_
        exact AW_iret dX10_sales_34 rfl (hq _ _ (Option.some.inj hf).symm)
theorem w_X10_sales {G : rk_G} {l : Launch} {d : Nat} {n : Nat} {S : rk_Sh} {I : rk_I} {J : rk_J} {R : rk_R} {a1 : Int32} {a2 : Int32} {a3 : Int32} {a4 : Int32} {v8 : Int32} {I8 : rk_I} (hd : 3 ≤ d) (hM : rk_LM S R) (hf : f_X10_sales I a1 a2 a3 a4 = some (v8, I8)) :
    CW G l yX10_sales cX10_sales 8 (some .int) d 0 0 [.ref 31, .int a1, .int a2, .int a3, .int a4] n S I J R (rk_qi v8 n S I8 J R True) :=
  CW.of (by decide +kernel) (Nat.le_of_ble_eq_true rfl) (rk_sbs (rk_sbs (rk_sbs (rk_sbs (rk_sbs (rk_sbe (rk_sbe (rk_sbe rk_sb0)))))))) (b_X10_sales hd hM hf (fun v9 I9 h9 => by cases h9; exact ⟨rfl, rfl, rfl, rfl, rfl, rfl, trivial⟩))
noncomputable def f_X9_taken (S : rk_Sh) (I : rk_I) (R : rk_R) (a1 : Int32) (a2 : Int32) : Option (Int32) :=
(f_X9_isKind a2).bind fun x1 =>
if x1 = 0 then (
some (-2)) else (
(f_X9_saleAt I R a1).bind fun q1 =>
rk_oc q1 (
some (-11)) (fun o1 => (
(rk_ck S o1 5 11).bind fun _ =>
(f_X9_isUnder (I o1 0) a2).bind fun x2 =>
if x2 = 0 then (
some (-13)) else (
some (I o1 5)))))
theorem b_X9_taken {G : rk_G} {l : Launch} {d kc ks : Nat} {n : Nat} {S : rk_Sh} {I : rk_I} {J : rk_J} {R : rk_R} {Q : rk_Q} {a1 : Int32} {a2 : Int32} {r : Int32} (hd : 2 ≤ d) (hL : rk_LC S R) (hf : f_X9_taken S I R a1 a2 = some r) (hq : ∀ (v9 : Int32), r = v9 → Q (some (.int v9)) n S I J R) :
    AW G l yX9_taken cX9_taken 4 (some .int) d kc ks 0 [some (.ref 0), some (.int a1), some (.int a2), none] [] n S I J R Q := by
  unfold f_X9_taken at hf
  refine AW_iload_n2 dX9_taken_0 ?_
  replace hf := rk_bd hf
  obtain ⟨x1, e1, hf⟩ := hf
  refine AW_iS1iz (w_X9_isKind (d := 0) e1) dX9_taken_1 kl_X9_119 (Nat.le_trans (by decide) hd) (by decide) (Nat.le_of_ble_eq_true rfl) (fun _ => ?_)
  refine AW_if_ne 10 dX9_taken_4 (by decide) (fun h1 => ?_) (fun h1 => ?_)
  · replace hf := rk_if hf h1
    refine AW_aload_n0 dX9_taken_10 ?_
    refine AW_iload_n1 dX9_taken_11 ?_
    replace hf := rk_bd hf
    obtain ⟨q1, e2, hf⟩ := hf
    refine AW_iV1oz (w_X9_saleAt (d := 0) hL e2) dX9_taken_12 kl_X9_131 (hL.1 0 (by decide)) rfl (Nat.le_trans (by decide) hd) (by decide) (Nat.le_of_ble_eq_true rfl) (fun _ => ?_)
    refine AW_astoreO_n3 dX9_taken_15 (by decide) rfl ?_
    refine AW_aloadO_n3 dX9_taken_16 ?_
    rcases q1 with _ | o1
    · replace hf := rk_oc_n hf
      refine AW_ifnonnullN dX9_taken_17 ?_
      refine AW_bipush (v := (-11)) dX9_taken_20 (by decide) ?_
      exact AW_iret dX9_taken_22 rfl (hq _ (Option.some.inj hf).symm)
    · replace hf := rk_oc_s hf
      refine AW_ifnonnull 23 dX9_taken_17 (by decide) ?_
      refine AW_aload_n3 dX9_taken_23 ?_
      replace hf := rk_bd hf
      obtain ⟨_, e3, hf⟩ := hf
      have e3 := rk_ck_sp e3
      refine AW_getI dX9_taken_24 kf_X9_237 rfl e3 (by decide) ?_
      refine AW_iload_n2 dX9_taken_27 ?_
      replace hf := rk_bd hf
      obtain ⟨x2, e4, hf⟩ := hf
      refine AW_iS2iz (w_X9_isUnder (d := 1) (Nat.le_refl _) e4) dX9_taken_28 kl_X9_240 (Nat.le_trans (by decide) hd) (by decide) (Nat.le_of_ble_eq_true rfl) (fun _ => ?_)
      refine AW_if_eq 41 dX9_taken_31 (by decide) (fun h2 => ?_) (fun h2 => ?_)
      · replace hf := rk_it hf h2
        refine AW_bipush (v := (-13)) dX9_taken_41 (by decide) ?_
        exact AW_iret dX9_taken_43 rfl (hq _ (Option.some.inj hf).symm)
      · replace hf := rk_if hf h2
        refine AW_aload_n3 dX9_taken_34 ?_
        refine AW_getI dX9_taken_35 kf_X9_316 rfl e3 (by decide) ?_
        refine AW_goto 43 dX9_taken_38 (by decide) ?_
        exact AW_iret dX9_taken_43 rfl (hq _ (Option.some.inj hf).symm)
  · replace hf := rk_it hf h1
    refine AW_bipush (v := (-2)) dX9_taken_7 (by decide) ?_
    exact AW_iret dX9_taken_9 rfl (hq _ (Option.some.inj hf).symm)
theorem w_X9_taken {G : rk_G} {l : Launch} {d : Nat} {n : Nat} {S : rk_Sh} {I : rk_I} {J : rk_J} {R : rk_R} {a1 : Int32} {a2 : Int32} {v8 : Int32} (hd : 2 ≤ d) (hL : rk_LC S R) (hf : f_X9_taken S I R a1 a2 = some v8) :
    CW G l yX9_taken cX9_taken 4 (some .int) d 0 0 [.ref 0, .int a1, .int a2] n S I J R (rk_qi v8 n S I J R True) :=
  CW.of (by decide +kernel) (Nat.le_of_ble_eq_true rfl) (rk_sbs (rk_sbs (rk_sbs (rk_sbe rk_sb0)))) (b_X9_taken hd hL hf (fun v9 h9 => by cases h9; exact ⟨rfl, rfl, rfl, rfl, rfl, rfl, trivial⟩))
noncomputable def f_X10_taken (I : rk_I) (a1 : Int32) (a2 : Int32) : Option (Int32) :=
(f_X10_in a2.toInt64 0 5).bind fun x1 =>
if x1 = 0 then (
some (-2)) else (
(f_X10_isSale I a1).bind fun x2 =>
if x2 = 0 then (
some (-11)) else (
(rk_rd I 38 24 a1).bind fun x3 =>
(f_X10_isUnder x3 a2).bind fun x4 =>
if x4 = 0 then (
some (-13)) else (
(rk_rd I 43 24 a1).bind fun x5 =>
some x5)))
theorem b_X10_taken {G : rk_G} {l : Launch} {d kc ks : Nat} {n : Nat} {S : rk_Sh} {I : rk_I} {J : rk_J} {R : rk_R} {Q : rk_Q} {a1 : Int32} {a2 : Int32} {r : Int32} (hd : 2 ≤ d) (hM : rk_LM S R) (hf : f_X10_taken I a1 a2 = some r) (hq : ∀ (v9 : Int32), r = v9 → Q (some (.int v9)) n S I J R) :
    AW G l yX10_taken cX10_taken 3 (some .int) d kc ks 0 [some (.ref 31), some (.int a1), some (.int a2)] [] n S I J R Q := by
  unfold f_X10_taken at hf
  refine AW_iload_n2 dX10_taken_0 ?_
  refine AW_i2l dX10_taken_1 ?_
  refine AW_lconst (v := 0) dX10_taken_2 (by decide) ?_
  refine AW_ldc2 dX10_taken_3 kv_X10_136 ?_
  replace hf := rk_bd hf
  obtain ⟨x1, e1, hf⟩ := hf
  refine AW_iS3iz (w_X10_in (d := 0) e1) dX10_taken_6 kl_X10_114 (Nat.le_trans (by decide) hd) (by decide) (Nat.le_of_ble_eq_true rfl) (fun _ => ?_)
  refine AW_if_ne 15 dX10_taken_9 (by decide) (fun h1 => ?_) (fun h1 => ?_)
  · replace hf := rk_if hf h1
    refine AW_aload_n0 dX10_taken_15 ?_
    refine AW_iload_n1 dX10_taken_16 ?_
    replace hf := rk_bd hf
    obtain ⟨x2, e2, hf⟩ := hf
    refine AW_iV1iz (w_X10_isSale (d := 1) (Nat.le_refl _) hM e2) dX10_taken_17 kl_X10_141 (hM.1 31 (by decide) (by decide)) rfl (Nat.le_trans (by decide) hd) (by decide) (Nat.le_of_ble_eq_true rfl) (fun _ => ?_)
    refine AW_if_ne 26 dX10_taken_20 (by decide) (fun h2 => ?_) (fun h2 => ?_)
    · replace hf := rk_if hf h2
      refine AW_aload_n0 dX10_taken_26 ?_
      refine AW_getR dX10_taken_27 kf_X10_32 rfl (hM.1 31 (by decide) (by decide)) (by decide) (hM.2 31 11 38 rfl) ?_
      refine AW_iload_n1 dX10_taken_30 ?_
      replace hf := rk_bd hf
      obtain ⟨x3, e3, hf⟩ := hf
      refine AW_rd dX10_taken_31 (hM.1 38 (by decide) (by decide)) e3 ?_
      refine AW_iload_n2 dX10_taken_32 ?_
      replace hf := rk_bd hf
      obtain ⟨x4, e4, hf⟩ := hf
      refine AW_iS2iz (w_X10_isUnder (d := 1) (Nat.le_refl _) e4) dX10_taken_33 kl_X10_343 (Nat.le_trans (by decide) hd) (by decide) (Nat.le_of_ble_eq_true rfl) (fun _ => ?_)
      refine AW_if_eq 48 dX10_taken_36 (by decide) (fun h3 => ?_) (fun h3 => ?_)
      · replace hf := rk_it hf h3
        refine AW_bipush (v := (-13)) dX10_taken_48 (by decide) ?_
        exact AW_iret dX10_taken_50 rfl (hq _ (Option.some.inj hf).symm)
      · replace hf := rk_if hf h3
        refine AW_aload_n0 dX10_taken_39 ?_
        refine AW_getR dX10_taken_40 kf_X10_47 rfl (hM.1 31 (by decide) (by decide)) (by decide) (hM.2 31 16 43 rfl) ?_
        refine AW_iload_n1 dX10_taken_43 ?_
        replace hf := rk_bd hf
        obtain ⟨x5, e5, hf⟩ := hf
        refine AW_rd dX10_taken_44 (hM.1 43 (by decide) (by decide)) e5 ?_
        refine AW_goto 50 dX10_taken_45 (by decide) ?_
        exact AW_iret dX10_taken_50 rfl (hq _ (Option.some.inj hf).symm)
    · replace hf := rk_it hf h2
      refine AW_bipush (v := (-11)) dX10_taken_23 (by decide) ?_
      exact AW_iret dX10_taken_25 rfl (hq _ (Option.some.inj hf).symm)
  · replace hf := rk_it hf h1
    refine AW_bipush (v := (-2)) dX10_taken_12 (by decide) ?_
    exact AW_iret dX10_taken_14 rfl (hq _ (Option.some.inj hf).symm)
theorem w_X10_taken {G : rk_G} {l : Launch} {d : Nat} {n : Nat} {S : rk_Sh} {I : rk_I} {J : rk_J} {R : rk_R} {a1 : Int32} {a2 : Int32} {v8 : Int32} (hd : 2 ≤ d) (hM : rk_LM S R) (hf : f_X10_taken I a1 a2 = some v8) :
    CW G l yX10_taken cX10_taken 3 (some .int) d 0 0 [.ref 31, .int a1, .int a2] n S I J R (rk_qi v8 n S I J R True) :=
  CW.of (by decide +kernel) (Nat.le_of_ble_eq_true rfl) (rk_sbs (rk_sbs (rk_sbs rk_sb0))) (b_X10_taken hd hM hf (fun v9 h9 => by cases h9; exact ⟨rfl, rfl, rfl, rfl, rfl, rfl, trivial⟩))
