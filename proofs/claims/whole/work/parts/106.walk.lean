noncomputable def f_X10_moves (I : rk_I) (a1 : Int32) (a2 : Int32) (a3 : Int32) : Option (Int64 × rk_I) :=
(f_X10_isSale I a1).bind fun x1 =>
if x1 = 0 then (
some ((-4611686018427387904), I)) else (
(f_X10_in a2.toInt64 0 59).bind fun x2 =>
if x2 = 0 then (
some ((-4611686018427387904), I)) else (
(f_X10_isHour a3).bind fun x3 =>
if x3 = 0 then (
some ((-4611686018427387904), I)) else (
(rk_rd I 39 24 a1).bind fun x4 =>
(f_X10_lays I x4 a3 1).bind fun I1 =>
(rk_rd I1 47 10 (rk_md a2 10)).bind fun x5 =>
(rk_rd I1 38 24 a1).bind fun x6 =>
(rk_wr I1 38 24 a1 (a2 / 10)).bind fun I2 =>
(rk_rd I2 39 24 a1).bind fun x7 =>
(f_X10_lays I2 x7 a3 1).bind fun I3 =>
(rk_wr I3 38 24 a1 x6).bind fun I4 =>
(rk_rd I4 47 10 (rk_md a2 10)).bind fun x8 =>
some ((x8 - x5).toInt64, I4))))
theorem b_X10_moves {G : rk_G} {l : Launch} {d kc ks : Nat} {n : Nat} {S : rk_Sh} {I : rk_I} {J : rk_J} {R : rk_R} {Q : rk_Q} {a1 : Int32} {a2 : Int32} {a3 : Int32} {r : Int64 × rk_I} (hd : 5 ≤ d) (hM : rk_LM S R) (hf : f_X10_moves I a1 a2 a3 = some r) (hq : ∀ (v9 : Int64) (I9 : rk_I), r = (v9, I9) → Q (some (.long v9)) n S I9 J R) :
    AW G l yX10_moves cX10_moves 6 (some .long) d kc ks 0 [some (.ref 31), some (.int a1), some (.int a2), some (.int a3), none, none] [] n S I J R Q := by
  unfold f_X10_moves at hf
  refine AW_aload_n0 dX10_moves_0 ?_
  refine AW_iload_n1 dX10_moves_1 ?_
  replace hf := rk_bd hf
  obtain ⟨x1, e1, hf⟩ := hf
  refine AW_iV1iz (w_X10_isSale (d := 1) (Nat.le_refl _) hM e1) dX10_moves_2 kl_X10_141 (hM.1 31 (by decide) (by decide)) rfl (Nat.le_trans (by decide) hd) (by decide) (Nat.le_of_ble_eq_true rfl) (fun _ => ?_)
  refine AW_if_eq 27 dX10_moves_5 (by decide) (fun h1 => ?_) (fun h1 => ?_)
  · replace hf := rk_it hf h1
    refine AW_ldc2 dX10_moves_27 kv_X10_168 ?_
    exact AW_lret dX10_moves_30 rfl (hq _ _ (Option.some.inj hf).symm)
  · replace hf := rk_if hf h1
    refine AW_iload_n2 dX10_moves_8 ?_
    refine AW_i2l dX10_moves_9 ?_
    refine AW_lconst (v := 0) dX10_moves_10 (by decide) ?_
    refine AW_ldc2 dX10_moves_11 kv_X10_354 ?_
    replace hf := rk_bd hf
    obtain ⟨x2, e2, hf⟩ := hf
    refine AW_iS3iz (w_X10_in (d := 0) e2) dX10_moves_14 kl_X10_114 (Nat.le_trans (by decide) hd) (by decide) (Nat.le_of_ble_eq_true rfl) (fun _ => ?_)
    refine AW_if_eq 27 dX10_moves_17 (by decide) (fun h2 => ?_) (fun h2 => ?_)
    · replace hf := rk_it hf h2
      refine AW_ldc2 dX10_moves_27 kv_X10_168 ?_
      exact AW_lret dX10_moves_30 rfl (hq _ _ (Option.some.inj hf).symm)
    · replace hf := rk_if hf h2
      refine AW_iload_n3 dX10_moves_20 ?_
      replace hf := rk_bd hf
      obtain ⟨x3, e3, hf⟩ := hf
      refine AW_iS1iz (w_X10_isHour (d := 1) (Nat.le_refl _) e3) dX10_moves_21 kl_X10_138 (Nat.le_trans (by decide) hd) (by decide) (Nat.le_of_ble_eq_true rfl) (fun _ => ?_)
      refine AW_if_ne 31 dX10_moves_24 (by decide) (fun h3 => ?_) (fun h3 => ?_)
      · replace hf := rk_if hf h3
        refine AW_aload_n0 dX10_moves_31 ?_
        refine AW_aload_n0 dX10_moves_32 ?_
        refine AW_getR dX10_moves_33 kf_X10_35 rfl (hM.1 31 (by decide) (by decide)) (by decide) (hM.2 31 12 39 rfl) ?_
        refine AW_iload_n1 dX10_moves_36 ?_
        replace hf := rk_bd hf
        obtain ⟨x4, e4, hf⟩ := hf
        refine AW_rd dX10_moves_37 (hM.1 39 (by decide) (by decide)) e4 ?_
        refine AW_iload_n3 dX10_moves_38 ?_
        refine AW_iconst (v := 1) dX10_moves_39 (by decide) ?_
        replace hf := rk_bd hf
        obtain ⟨I1, e5, hf⟩ := hf
        refine AW_iV3vz (w_X10_lays (d := 4) (Nat.le_refl _) hM e5) dX10_moves_40 kl_X10_164 (hM.1 31 (by decide) (by decide)) rfl (Nat.le_trans (by decide) hd) (by decide) (Nat.le_of_ble_eq_true rfl) (fun _ => ?_)
        refine AW_aload_n0 dX10_moves_43 ?_
        refine AW_getR dX10_moves_44 kf_X10_59 rfl (hM.1 31 (by decide) (by decide)) (by decide) (hM.2 31 21 47 rfl) ?_
        refine AW_iload_n2 dX10_moves_47 ?_
        refine AW_bipush (v := 10) dX10_moves_48 (by decide) ?_
        refine AW_md dX10_moves_50 (by decide) ?_
        replace hf := rk_bd hf
        obtain ⟨x5, e6, hf⟩ := hf
        refine AW_rd dX10_moves_51 (hM.1 47 (by decide) (by decide)) e6 ?_
        refine AW_istore_4 dX10_moves_52 (by decide) rfl ?_
        refine AW_aload_n0 dX10_moves_54 ?_
        refine AW_getR dX10_moves_55 kf_X10_32 rfl (hM.1 31 (by decide) (by decide)) (by decide) (hM.2 31 11 38 rfl) ?_
        refine AW_iload_n1 dX10_moves_58 ?_
        replace hf := rk_bd hf
        obtain ⟨x6, e7, hf⟩ := hf
        refine AW_rd dX10_moves_59 (hM.1 38 (by decide) (by decide)) e7 ?_
        refine AW_istore_5 dX10_moves_60 (by decide) rfl ?_
        refine AW_aload_n0 dX10_moves_62 ?_
        refine AW_getR dX10_moves_63 kf_X10_32 rfl (hM.1 31 (by decide) (by decide)) (by decide) (hM.2 31 11 38 rfl) ?_
        refine AW_iload_n1 dX10_moves_66 ?_
        refine AW_iload_n2 dX10_moves_67 ?_
        refine AW_bipush (v := 10) dX10_moves_68 (by decide) ?_
        refine AW_idiv dX10_moves_70 (by decide) ?_
        replace hf := rk_bd hf
        obtain ⟨I2, e8, hf⟩ := hf
        refine AW_wr dX10_moves_71 (hM.1 38 (by decide) (by decide)) e8 ?_
        refine AW_aload_n0 dX10_moves_72 ?_
        refine AW_aload_n0 dX10_moves_73 ?_
        refine AW_getR dX10_moves_74 kf_X10_35 rfl (hM.1 31 (by decide) (by decide)) (by decide) (hM.2 31 12 39 rfl) ?_
        refine AW_iload_n1 dX10_moves_77 ?_
        replace hf := rk_bd hf
        obtain ⟨x7, e9, hf⟩ := hf
        refine AW_rd dX10_moves_78 (hM.1 39 (by decide) (by decide)) e9 ?_
        refine AW_iload_n3 dX10_moves_79 ?_
        refine AW_iconst (v := 1) dX10_moves_80 (by decide) ?_
        replace hf := rk_bd hf
        obtain ⟨I3, e10, hf⟩ := hf
        refine AW_iV3vz (w_X10_lays (d := 4) (Nat.le_refl _) hM e10) dX10_moves_81 kl_X10_164 (hM.1 31 (by decide) (by decide)) rfl (Nat.le_trans (by decide) hd) (by decide) (Nat.le_of_ble_eq_true rfl) (fun _ => ?_)
        refine AW_aload_n0 dX10_moves_84 ?_
        refine AW_getR dX10_moves_85 kf_X10_32 rfl (hM.1 31 (by decide) (by decide)) (by decide) (hM.2 31 11 38 rfl) ?_
        refine AW_iload_n1 dX10_moves_88 ?_
        refine AW_iload_5 dX10_moves_89 ?_
        replace hf := rk_bd hf
        obtain ⟨I4, e11, hf⟩ := hf
        refine AW_wr dX10_moves_91 (hM.1 38 (by decide) (by decide)) e11 ?_
        refine AW_aload_n0 dX10_moves_92 ?_
        refine AW_getR dX10_moves_93 kf_X10_59 rfl (hM.1 31 (by decide) (by decide)) (by decide) (hM.2 31 21 47 rfl) ?_
        refine AW_iload_n2 dX10_moves_96 ?_
        refine AW_bipush (v := 10) dX10_moves_97 (by decide) ?_
        refine AW_md dX10_moves_99 (by decide) ?_
        replace hf := rk_bd hf
        obtain ⟨x8, e12, hf⟩ := hf
        refine AW_rd dX10_moves_100 (hM.1 47 (by decide) (by decide)) e12 ?_
        refine AW_iload_4 dX10_moves_101 ?_
        refine AW_isub dX10_moves_103 ?_
        refine AW_i2l dX10_moves_104 ?_
        exact AW_lret dX10_moves_105 rfl (hq _ _ (Option.some.inj hf).symm)
      · replace hf := rk_it hf h3
        refine AW_ldc2 dX10_moves_27 kv_X10_168 ?_
        exact AW_lret dX10_moves_30 rfl (hq _ _ (Option.some.inj hf).symm)
theorem w_X10_moves {G : rk_G} {l : Launch} {d : Nat} {n : Nat} {S : rk_Sh} {I : rk_I} {J : rk_J} {R : rk_R} {a1 : Int32} {a2 : Int32} {a3 : Int32} {v8 : Int64} {I8 : rk_I} (hd : 5 ≤ d) (hM : rk_LM S R) (hf : f_X10_moves I a1 a2 a3 = some (v8, I8)) :
    CW G l yX10_moves cX10_moves 6 (some .long) d 0 0 [.ref 31, .int a1, .int a2, .int a3] n S I J R (rk_ql v8 n S I8 J R True) :=
  CW.of (by decide +kernel) (Nat.le_of_ble_eq_true rfl) (rk_sbs (rk_sbs (rk_sbs (rk_sbs (rk_sbe (rk_sbe rk_sb0)))))) (b_X10_moves hd hM hf (fun v9 I9 h9 => by cases h9; exact ⟨rfl, rfl, rfl, rfl, rfl, rfl, trivial⟩))
noncomputable def f_X9_telegraph_l51 (S : rk_Sh) (I : rk_I) (R : rk_R) (u2 : Int32) (u3 : Nat) (s4 : Int32) (s5 : Int32) : Option ((Int32 × Int32) ⊕ (Int32 × Int32)) :=
if (I 0 3) ≤ s5 then (
some (.inr (s4, s5))) else (
(rk_rdR R 2 24 s5).bind fun q1 =>
(rk_dr S 5 11 q1).bind fun o1 =>
(some (R o1 1)).bind fun q2 =>
(rk_dr S 0 5 q2).bind fun o2 =>
if o2 = u3 then (
if (I o1 6) ≤ u2 then (
some (.inl (s4, (s5 + 1)))) else (
(rk_rd I 13 10 (I o1 2)).bind fun x1 =>
if x1 ≤ 0 then (
some (.inl (s4, (s5 + 1)))) else (
some (.inl ((s4 ||| (1 <<< (s5 &&& 31))), (s5 + 1)))))) else (
some (.inl (s4, (s5 + 1)))))
theorem b_X9_telegraph_l51 {G : rk_G} {l : Launch} {d kc ks : Nat} {n : Nat} {S : rk_Sh} {I : rk_I} {J : rk_J} {R : rk_R} {Q : rk_Q} {u2 : Int32} {u3 : Nat} {s4 : Int32} {s5 : Int32} {r : (Int32 × Int32) ⊕ (Int32 × Int32)} (hd : 5 ≤ d) (hS_u3 : S u3 = (0, 5)) (hL : rk_LC S R) (hf : f_X9_telegraph_l51 S I R u2 u3 s4 s5 = some r) (hc : ∀ (w0 : Int32) (w1 : Int32), r = .inl (w0, w1) → AW G l yX9_telegraph cX9_telegraph 7 (some .int) d kc ks 51 [some (.ref 0), none, some (.int u2), some (.ref u3), some (.int w0), some (.int w1), none] [] n S I J R Q) (he : ∀ (w0 : Int32) (w1 : Int32), r = .inr (w0, w1) → AW G l yX9_telegraph cX9_telegraph 7 (some .int) d kc ks 118 [some (.ref 0), none, some (.int u2), some (.ref u3), some (.int w0), some (.int w1), none] [] n S I J R Q) :
    AW G l yX9_telegraph cX9_telegraph 7 (some .int) d kc ks 51 [some (.ref 0), none, some (.int u2), some (.ref u3), some (.int s4), some (.int s5), none] [] n S I J R Q := by
  unfold f_X9_telegraph_l51 at hf
  refine AW_iload_5 dX9_telegraph_51 ?_
  refine AW_aload_n0 dX9_telegraph_53 ?_
  refine AW_getI dX9_telegraph_54 kf_X9_125 rfl (hL.1 0 (by decide)) (by decide) ?_
  refine AW_icmp_ge 118 dX9_telegraph_57 (by decide) (fun h1 => ?_) (fun h1 => ?_)
  · replace hf := rk_it hf h1
    refine AW_sb (rk_sbs (rk_sbn (rk_sbs (rk_sbs (rk_sbs (rk_sbs (rk_sbn rk_sb0))))))) ?_
    exact he _ _ (Option.some.inj hf).symm
  · replace hf := rk_if hf h1
    refine AW_aload_n0 dX9_telegraph_60 ?_
    refine AW_getR dX9_telegraph_61 kf_X9_17 rfl (hL.1 0 (by decide)) (by decide) (hL.2 0 2 2 rfl) ?_
    refine AW_iload_5 dX9_telegraph_64 ?_
    replace hf := rk_bd hf
    obtain ⟨q1, e1, hf⟩ := hf
    refine AW_rdR dX9_telegraph_66 (hL.1 2 (by decide)) (by decide) e1 ?_
    refine AW_astoreO_6 dX9_telegraph_67 (by decide) rfl ?_
    refine AW_aloadO_6 dX9_telegraph_69 ?_
    replace hf := rk_bd hf
    obtain ⟨o1, e2, hf⟩ := hf
    obtain ⟨e2, hS1⟩ := rk_dr_sp e2
    subst e2
    replace hf := rk_bd hf
    obtain ⟨q2, e3, hf⟩ := hf
    refine AW_getQ dX9_telegraph_71 kf_X9_252 rfl hS1 (by decide) e3 ?_
    refine AW_aload_n3 dX9_telegraph_74 ?_
    replace hf := rk_bd hf
    obtain ⟨o2, e4, hf⟩ := hf
    obtain ⟨e4, hS2⟩ := rk_dr_sp e4
    subst e4
    refine AW_acmS_ne 112 dX9_telegraph_75 (by decide) hS2 (by decide) hS_u3 (by decide) (fun h2 => ?_) (fun h2 => ?_)
    · replace hf := rk_if hf h2
      refine AW_iinc_5 (v := 1) dX9_telegraph_112 (by decide) (by decide) rfl ?_
      refine AW_goto 51 dX9_telegraph_115 (by decide) ?_
      refine AW_sb (rk_sbs (rk_sbn (rk_sbs (rk_sbs (rk_sbs (rk_sbs (rk_sbn rk_sb0))))))) ?_
      exact hc _ _ (Option.some.inj hf).symm
    · replace hf := rk_it hf h2
      refine AW_aload_6 dX9_telegraph_78 ?_
      refine AW_getI dX9_telegraph_80 kf_X9_256 rfl hS1 (by decide) ?_
      refine AW_iload_n2 dX9_telegraph_83 ?_
      refine AW_icmp_le 112 dX9_telegraph_84 (by decide) (fun h3 => ?_) (fun h3 => ?_)
      · replace hf := rk_it hf h3
        refine AW_iinc_5 (v := 1) dX9_telegraph_112 (by decide) (by decide) rfl ?_
        refine AW_goto 51 dX9_telegraph_115 (by decide) ?_
        refine AW_sb (rk_sbs (rk_sbn (rk_sbs (rk_sbs (rk_sbs (rk_sbs (rk_sbn rk_sb0))))))) ?_
        exact hc _ _ (Option.some.inj hf).symm
      · replace hf := rk_if hf h3
        refine AW_aload_n0 dX9_telegraph_87 ?_
        refine AW_getR dX9_telegraph_88 kf_X9_44 rfl (hL.1 0 (by decide)) (by decide) (hL.2 0 9 12 rfl) ?_
        refine AW_getR dX9_telegraph_91 kf_X9_175 rfl (hL.1 12 (by decide)) (by decide) (hL.2 12 0 13 rfl) ?_
        refine AW_aload_6 dX9_telegraph_94 ?_
        refine AW_getI dX9_telegraph_96 kf_X9_202 rfl hS1 (by decide) ?_
        replace hf := rk_bd hf
        obtain ⟨x1, e5, hf⟩ := hf
        refine AW_rd dX9_telegraph_99 (hL.1 13 (by decide)) e5 ?_
        refine AW_if_le 112 dX9_telegraph_100 (by decide) (fun h4 => ?_) (fun h4 => ?_)
        · replace hf := rk_it hf h4
          refine AW_iinc_5 (v := 1) dX9_telegraph_112 (by decide) (by decide) rfl ?_
          refine AW_goto 51 dX9_telegraph_115 (by decide) ?_
          refine AW_sb (rk_sbs (rk_sbn (rk_sbs (rk_sbs (rk_sbs (rk_sbs (rk_sbn rk_sb0))))))) ?_
          exact hc _ _ (Option.some.inj hf).symm
        · replace hf := rk_if hf h4
          refine AW_iload_4 dX9_telegraph_103 ?_
          refine AW_iconst (v := 1) dX9_telegraph_105 (by decide) ?_
          refine AW_iload_5 dX9_telegraph_106 ?_
          refine AW_ishl dX9_telegraph_108 ?_
          refine AW_ior dX9_telegraph_109 ?_
          refine AW_istore_4 dX9_telegraph_110 (by decide) rfl ?_
          refine AW_iinc_5 (v := 1) dX9_telegraph_112 (by decide) (by decide) rfl ?_
          refine AW_goto 51 dX9_telegraph_115 (by decide) ?_
          refine AW_sb (rk_sbs (rk_sbn (rk_sbs (rk_sbs (rk_sbs (rk_sbs (rk_sbn rk_sb0))))))) ?_
          exact hc _ _ (Option.some.inj hf).symm
theorem L_X9_telegraph_w51 {G : rk_G} {l : Launch} {d kc ks : Nat} {n : Nat} {S : rk_Sh} {I : rk_I} {J : rk_J} {R : rk_R} {Q : rk_Q} {u2 : Int32} {u3 : Nat} {r : Int32 × Int32} (hd : 5 ≤ d) (hS_u3 : S u3 = (0, 5)) (hL : rk_LC S R) (he : ∀ (w0 : Int32) (w1 : Int32), r = (w0, w1) → AW G l yX9_telegraph cX9_telegraph 7 (some .int) d kc ks 118 [some (.ref 0), none, some (.int u2), some (.ref u3), some (.int w0), some (.int w1), none] [] n S I J R Q) :
    ∀ (m9 : Nat) (s4 : Int32) (s5 : Int32) , rk_loop (fun a9 => f_X9_telegraph_l51 S I R u2 u3 a9.1 a9.2) m9 (s4, s5) = some r → AW G l yX9_telegraph cX9_telegraph 7 (some .int) d kc ks 51 [some (.ref 0), none, some (.int u2), some (.ref u3), some (.int s4), some (.int s5), none] [] n S I J R Q := by
  intro m9
  induction m9 with
  | zero => intro s4 s5 hf; cases hf
  | succ m9 ih =>
    intro s4 s5 hf 
    obtain ⟨r9, hf, hr⟩ := rk_loop_s hf
    exact b_X9_telegraph_l51 hd hS_u3 hL hf (fun _ _ h9 => by subst h9; exact ih _ _ hr) (fun _ _ h9 => by subst h9; exact he _ _ hr.symm)
noncomputable def f_X9_telegraph (S : rk_Sh) (I : rk_I) (R : rk_R) (a1 : Int32) (a2 : Int32) : Option (Int32 × rk_I × rk_R) :=
(f_X9_cargoAt I R a1).bind fun q1 =>
rk_oc q1 (
some ((-2), I, R)) (fun o1 => (
(f_X9_isHour a2).bind fun x1 =>
if x1 = 0 then (
some ((-2), I, R)) else (
rk_b2 (f_X1_open S I R o1 (I 0 3) 1) fun I1 R1 =>
(rk_ck S o1 0 5).bind fun _ =>
(f_X1_runTo S I1 R1 a2).bind fun I2 =>
rk_b2 (rk_while (fun a9 => f_X9_telegraph_l51 S I2 R1 a2 o1 a9.1 a9.2) (0, 0)) fun x2 x3 =>
some (x2, I2, R1))))
theorem b_X9_telegraph {G : rk_G} {l : Launch} {d kc ks : Nat} {n : Nat} {S : rk_Sh} {I : rk_I} {J : rk_J} {R : rk_R} {Q : rk_Q} {a1 : Int32} {a2 : Int32} {r : Int32 × rk_I × rk_R} (hd : 5 ≤ d) (hL : rk_LC S R) (hf : f_X9_telegraph S I R a1 a2 = some r) (hq : ∀ (v9 : Int32) (I9 : rk_I) (R9 : rk_R), r = (v9, I9, R9) → rk_LC S R9 → Q (some (.int v9)) n S I9 J R9) :
    AW G l yX9_telegraph cX9_telegraph 7 (some .int) d kc ks 0 [some (.ref 0), some (.int a1), some (.int a2), none, none, none, none] [] n S I J R Q := by
  unfold f_X9_telegraph at hf
  refine AW_aload_n0 dX9_telegraph_0 ?_
  refine AW_iload_n1 dX9_telegraph_1 ?_
  replace hf := rk_bd hf
  obtain ⟨q1, e1, hf⟩ := hf
  refine AW_iV1oz (w_X9_cargoAt (d := 0) hL e1) dX9_telegraph_2 kl_X9_109 (hL.1 0 (by decide)) rfl (Nat.le_trans (by decide) hd) (by decide) (Nat.le_of_ble_eq_true rfl) (fun _ => ?_)
  refine AW_astoreO_n3 dX9_telegraph_5 (by decide) rfl ?_
  refine AW_aloadO_n3 dX9_telegraph_6 ?_
  rcases q1 with _ | o1
  · replace hf := rk_oc_n hf
    refine AW_ifnullN 17 dX9_telegraph_7 (by decide) ?_
    refine AW_bipush (v := (-2)) dX9_telegraph_17 (by decide) ?_
    exact AW_iret dX9_telegraph_19 rfl (hq _ _ _ (Option.some.inj hf).symm hL)
  · replace hf := rk_oc_s hf
    refine AW_ifnull dX9_telegraph_7 ?_
    refine AW_iload_n2 dX9_telegraph_10 ?_
    replace hf := rk_bd hf
    obtain ⟨x1, e2, hf⟩ := hf
    refine AW_iS1iz (w_X9_isHour (d := 0) e2) dX9_telegraph_11 kl_X9_122 (Nat.le_trans (by decide) hd) (by decide) (Nat.le_of_ble_eq_true rfl) (fun _ => ?_)
    refine AW_if_ne 20 dX9_telegraph_14 (by decide) (fun h1 => ?_) (fun h1 => ?_)
    · replace hf := rk_if hf h1
      refine AW_aload_n0 dX9_telegraph_20 ?_
      refine AW_getR dX9_telegraph_21 kf_X9_44 rfl (hL.1 0 (by decide)) (by decide) (hL.2 0 9 12 rfl) ?_
      refine AW_aload_n3 dX9_telegraph_24 ?_
      refine AW_aload_n0 dX9_telegraph_25 ?_
      refine AW_getR dX9_telegraph_26 kf_X9_17 rfl (hL.1 0 (by decide)) (by decide) (hL.2 0 2 2 rfl) ?_
      refine AW_aload_n0 dX9_telegraph_29 ?_
      refine AW_getI dX9_telegraph_30 kf_X9_125 rfl (hL.1 0 (by decide)) (by decide) ?_
      refine AW_iconst (v := 1) dX9_telegraph_33 (by decide) ?_
      replace hf := rk_bd2 hf
      obtain ⟨I1, R1, e3, hf⟩ := hf
      replace hf := rk_bd hf
      obtain ⟨_, e4, hf⟩ := hf
      have e4 := rk_ck_sp e4
      refine AW_iV4vz (w_X1_open (d := 4) (Nat.le_refl _) e4 hL e3) dX9_telegraph_34 kl_X9_168 (hL.1 12 (by decide)) rfl (Nat.le_trans (by decide) hd) (by decide) (Nat.le_of_ble_eq_true rfl) (fun hL1 => ?_)
      refine AW_aload_n0 dX9_telegraph_37 ?_
      refine AW_getR dX9_telegraph_38 kf_X9_44 rfl (hL1.1 0 (by decide)) (by decide) (hL1.2 0 9 12 rfl) ?_
      refine AW_iload_n2 dX9_telegraph_41 ?_
      replace hf := rk_bd hf
      obtain ⟨I2, e5, hf⟩ := hf
      refine AW_iV1vz (w_X1_runTo (d := 1) (Nat.le_refl _) hL1 e5) dX9_telegraph_42 kl_X9_172 (hL1.1 12 (by decide)) rfl (Nat.le_trans (by decide) hd) (by decide) (Nat.le_of_ble_eq_true rfl) (fun _ => ?_)
      refine AW_iconst (v := 0) dX9_telegraph_45 (by decide) ?_
      refine AW_istore_4 dX9_telegraph_46 (by decide) rfl ?_
      refine AW_iconst (v := 0) dX9_telegraph_48 (by decide) ?_
      refine AW_istore_5 dX9_telegraph_49 (by decide) rfl ?_
      refine AW_sb (rk_sbs (rk_sbn (rk_sbs (rk_sbs (rk_sbs (rk_sbs (rk_sbn rk_sb0))))))) ?_
      replace hf := rk_bd2 hf
      obtain ⟨x2, x3, e6, hf⟩ := hf
      obtain ⟨m1, e6⟩ := rk_while_sp e6
      refine L_X9_telegraph_w51 (Nat.le_trans (by decide) hd) e4 hL1 ?_ m1 _ _ e6
      intro x2 x3 h9
      cases h9
      refine AW_iload_4 dX9_telegraph_118 ?_
      exact AW_iret dX9_telegraph_120 rfl (hq _ _ _ (Option.some.inj hf).symm hL1)
    · replace hf := rk_it hf h1
      refine AW_bipush (v := (-2)) dX9_telegraph_17 (by decide) ?_
      exact AW_iret dX9_telegraph_19 rfl (hq _ _ _ (Option.some.inj hf).symm hL)
theorem w_X9_telegraph {G : rk_G} {l : Launch} {d : Nat} {n : Nat} {S : rk_Sh} {I : rk_I} {J : rk_J} {R : rk_R} {a1 : Int32} {a2 : Int32} {v8 : Int32} {I8 : rk_I} {R8 : rk_R} (hd : 5 ≤ d) (hL : rk_LC S R) (hf : f_X9_telegraph S I R a1 a2 = some (v8, I8, R8)) :
    CW G l yX9_telegraph cX9_telegraph 7 (some .int) d 0 0 [.ref 0, .int a1, .int a2] n S I J R (rk_qi v8 n S I8 J R8 (rk_LC S R8)) :=
  CW.of (by decide +kernel) (Nat.le_of_ble_eq_true rfl) (rk_sbs (rk_sbs (rk_sbs (rk_sbe (rk_sbe (rk_sbe (rk_sbe rk_sb0))))))) (b_X9_telegraph hd hL hf (fun v9 I9 R9 h9 hl9 => by cases h9; exact ⟨rfl, rfl, rfl, rfl, rfl, rfl, hl9⟩))
noncomputable def f_X10_telegraph_l30 (I : rk_I) (u1 : Int32) (u2 : Int32) (s3 : Int32) (s4 : Int32) : Option ((Int32 × Int32) ⊕ (Int32 × Int32)) :=
if (I 31 20) ≤ s4 then (
some (.inr (s3, s4))) else (
(rk_rd I 39 24 s4).bind fun x1 =>
if x1 = u1 then (
(rk_rd I 44 24 s4).bind fun x2 =>
if x2 ≤ u2 then (
some (.inl ((s3 ||| 0), (s4 + 1)))) else (
(rk_rd I 40 24 s4).bind fun x3 =>
(rk_rd I 47 10 x3).bind fun x4 =>
if x4 ≤ 0 then (
some (.inl ((s3 ||| 0), (s4 + 1)))) else (
some (.inl ((s3 ||| (1 <<< (s4 &&& 31))), (s4 + 1)))))) else (
some (.inl ((s3 ||| 0), (s4 + 1)))))
theorem b_X10_telegraph_l30 {G : rk_G} {l : Launch} {d kc ks : Nat} {n : Nat} {S : rk_Sh} {I : rk_I} {J : rk_J} {R : rk_R} {Q : rk_Q} {u1 : Int32} {u2 : Int32} {s3 : Int32} {s4 : Int32} {r : (Int32 × Int32) ⊕ (Int32 × Int32)} (hd : 5 ≤ d) (hM : rk_LM S R) (hf : f_X10_telegraph_l30 I u1 u2 s3 s4 = some r) (hc : ∀ (w0 : Int32) (w1 : Int32), r = .inl (w0, w1) → AW G l yX10_telegraph cX10_telegraph 5 (some .int) d kc ks 30 [some (.ref 31), some (.int u1), some (.int u2), some (.int w0), some (.int w1)] [] n S I J R Q) (he : ∀ (w0 : Int32) (w1 : Int32), r = .inr (w0, w1) → AW G l yX10_telegraph cX10_telegraph 5 (some .int) d kc ks 93 [some (.ref 31), some (.int u1), some (.int u2), some (.int w0), some (.int w1)] [] n S I J R Q) :
    AW G l yX10_telegraph cX10_telegraph 5 (some .int) d kc ks 30 [some (.ref 31), some (.int u1), some (.int u2), some (.int s3), some (.int s4)] [] n S I J R Q := by
  unfold f_X10_telegraph_l30 at hf
  refine AW_iload_4 dX10_telegraph_30 ?_
  refine AW_aload_n0 dX10_telegraph_32 ?_
  refine AW_getI dX10_telegraph_33 kf_X10_118 rfl (hM.1 31 (by decide) (by decide)) (by decide) ?_
  refine AW_icmp_ge 93 dX10_telegraph_36 (by decide) (fun h1 => ?_) (fun h1 => ?_)
  · replace hf := rk_it hf h1
    refine AW_sb (rk_sbs (rk_sbs (rk_sbs (rk_sbs (rk_sbs rk_sb0))))) ?_
    exact he _ _ (Option.some.inj hf).symm
  · replace hf := rk_if hf h1
    refine AW_iload_n3 dX10_telegraph_39 ?_
    refine AW_aload_n0 dX10_telegraph_40 ?_
    refine AW_getR dX10_telegraph_41 kf_X10_35 rfl (hM.1 31 (by decide) (by decide)) (by decide) (hM.2 31 12 39 rfl) ?_
    refine AW_iload_4 dX10_telegraph_44 ?_
    replace hf := rk_bd hf
    obtain ⟨x1, e1, hf⟩ := hf
    refine AW_rd dX10_telegraph_46 (hM.1 39 (by decide) (by decide)) e1 ?_
    refine AW_iload_n1 dX10_telegraph_47 ?_
    refine AW_icmp_ne 84 dX10_telegraph_48 (by decide) (fun h2 => ?_) (fun h2 => ?_)
    · replace hf := rk_if hf h2
      refine AW_iconst (v := 0) dX10_telegraph_84 (by decide) ?_
      refine AW_ior dX10_telegraph_85 ?_
      refine AW_istore_n3 dX10_telegraph_86 (by decide) rfl ?_
      refine AW_iinc_4 (v := 1) dX10_telegraph_87 (by decide) (by decide) rfl ?_
      refine AW_goto 30 dX10_telegraph_90 (by decide) ?_
      refine AW_sb (rk_sbs (rk_sbs (rk_sbs (rk_sbs (rk_sbs rk_sb0))))) ?_
      exact hc _ _ (Option.some.inj hf).symm
    · replace hf := rk_it hf h2
      refine AW_aload_n0 dX10_telegraph_51 ?_
      refine AW_getR dX10_telegraph_52 kf_X10_50 rfl (hM.1 31 (by decide) (by decide)) (by decide) (hM.2 31 17 44 rfl) ?_
      refine AW_iload_4 dX10_telegraph_55 ?_
      replace hf := rk_bd hf
      obtain ⟨x2, e2, hf⟩ := hf
      refine AW_rd dX10_telegraph_57 (hM.1 44 (by decide) (by decide)) e2 ?_
      refine AW_iload_n2 dX10_telegraph_58 ?_
      refine AW_icmp_le 84 dX10_telegraph_59 (by decide) (fun h3 => ?_) (fun h3 => ?_)
      · replace hf := rk_it hf h3
        refine AW_iconst (v := 0) dX10_telegraph_84 (by decide) ?_
        refine AW_ior dX10_telegraph_85 ?_
        refine AW_istore_n3 dX10_telegraph_86 (by decide) rfl ?_
        refine AW_iinc_4 (v := 1) dX10_telegraph_87 (by decide) (by decide) rfl ?_
        refine AW_goto 30 dX10_telegraph_90 (by decide) ?_
        refine AW_sb (rk_sbs (rk_sbs (rk_sbs (rk_sbs (rk_sbs rk_sb0))))) ?_
        exact hc _ _ (Option.some.inj hf).symm
      · replace hf := rk_if hf h3
        refine AW_aload_n0 dX10_telegraph_62 ?_
        refine AW_getR dX10_telegraph_63 kf_X10_59 rfl (hM.1 31 (by decide) (by decide)) (by decide) (hM.2 31 21 47 rfl) ?_
        refine AW_aload_n0 dX10_telegraph_66 ?_
        refine AW_getR dX10_telegraph_67 kf_X10_38 rfl (hM.1 31 (by decide) (by decide)) (by decide) (hM.2 31 13 40 rfl) ?_
        refine AW_iload_4 dX10_telegraph_70 ?_
        replace hf := rk_bd hf
        obtain ⟨x3, e3, hf⟩ := hf
        refine AW_rd dX10_telegraph_72 (hM.1 40 (by decide) (by decide)) e3 ?_
        replace hf := rk_bd hf
        obtain ⟨x4, e4, hf⟩ := hf
        refine AW_rd dX10_telegraph_73 (hM.1 47 (by decide) (by decide)) e4 ?_
        refine AW_if_le 84 dX10_telegraph_74 (by decide) (fun h4 => ?_) (fun h4 => ?_)
        · replace hf := rk_it hf h4
          refine AW_iconst (v := 0) dX10_telegraph_84 (by decide) ?_
          refine AW_ior dX10_telegraph_85 ?_
          refine AW_istore_n3 dX10_telegraph_86 (by decide) rfl ?_
          refine AW_iinc_4 (v := 1) dX10_telegraph_87 (by decide) (by decide) rfl ?_
          refine AW_goto 30 dX10_telegraph_90 (by decide) ?_
          refine AW_sb (rk_sbs (rk_sbs (rk_sbs (rk_sbs (rk_sbs rk_sb0))))) ?_
          exact hc _ _ (Option.some.inj hf).symm
        · replace hf := rk_if hf h4
          refine AW_iconst (v := 1) dX10_telegraph_77 (by decide) ?_
          refine AW_iload_4 dX10_telegraph_78 ?_
          refine AW_ishl dX10_telegraph_80 ?_
          refine AW_goto 85 dX10_telegraph_81 (by decide) ?_
          refine AW_ior dX10_telegraph_85 ?_
          refine AW_istore_n3 dX10_telegraph_86 (by decide) rfl ?_
          refine AW_iinc_4 (v := 1) dX10_telegraph_87 (by decide) (by decide) rfl ?_
          refine AW_goto 30 dX10_telegraph_90 (by decide) ?_
          refine AW_sb (rk_sbs (rk_sbs (rk_sbs (rk_sbs (rk_sbs rk_sb0))))) ?_
          exact hc _ _ (Option.some.inj hf).symm
theorem L_X10_telegraph_w30 {G : rk_G} {l : Launch} {d kc ks : Nat} {n : Nat} {S : rk_Sh} {I : rk_I} {J : rk_J} {R : rk_R} {Q : rk_Q} {u1 : Int32} {u2 : Int32} {r : Int32 × Int32} (hd : 5 ≤ d) (hM : rk_LM S R) (he : ∀ (w0 : Int32) (w1 : Int32), r = (w0, w1) → AW G l yX10_telegraph cX10_telegraph 5 (some .int) d kc ks 93 [some (.ref 31), some (.int u1), some (.int u2), some (.int w0), some (.int w1)] [] n S I J R Q) :
    ∀ (m9 : Nat) (s3 : Int32) (s4 : Int32) , rk_loop (fun a9 => f_X10_telegraph_l30 I u1 u2 a9.1 a9.2) m9 (s3, s4) = some r → AW G l yX10_telegraph cX10_telegraph 5 (some .int) d kc ks 30 [some (.ref 31), some (.int u1), some (.int u2), some (.int s3), some (.int s4)] [] n S I J R Q := by
  intro m9
  induction m9 with
  | zero => intro s3 s4 hf; cases hf
  | succ m9 ih =>
    intro s3 s4 hf 
    obtain ⟨r9, hf, hr⟩ := rk_loop_s hf
    exact b_X10_telegraph_l30 hd hM hf (fun _ _ h9 => by subst h9; exact ih _ _ hr) (fun _ _ h9 => by subst h9; exact he _ _ hr.symm)
noncomputable def f_X10_telegraph (I : rk_I) (a1 : Int32) (a2 : Int32) : Option (Int32 × rk_I) :=
(f_X10_isCargo I a1).bind fun x1 =>
if x1 = 0 then (
some ((-2), I)) else (
(f_X10_isHour a2).bind fun x2 =>
if x2 = 0 then (
some ((-2), I)) else (
(f_X10_lays I a1 a2 1).bind fun I1 =>
rk_b2 (rk_while (fun a9 => f_X10_telegraph_l30 I1 a1 a2 a9.1 a9.2) (0, 0)) fun x3 x4 =>
some (x3, I1)))
theorem b_X10_telegraph {G : rk_G} {l : Launch} {d kc ks : Nat} {n : Nat} {S : rk_Sh} {I : rk_I} {J : rk_J} {R : rk_R} {Q : rk_Q} {a1 : Int32} {a2 : Int32} {r : Int32 × rk_I} (hd : 5 ≤ d) (hM : rk_LM S R) (hf : f_X10_telegraph I a1 a2 = some r) (hq : ∀ (v9 : Int32) (I9 : rk_I), r = (v9, I9) → Q (some (.int v9)) n S I9 J R) :
    AW G l yX10_telegraph cX10_telegraph 5 (some .int) d kc ks 0 [some (.ref 31), some (.int a1), some (.int a2), none, none] [] n S I J R Q := by
  unfold f_X10_telegraph at hf
  refine AW_aload_n0 dX10_telegraph_0 ?_
  refine AW_iload_n1 dX10_telegraph_1 ?_
  replace hf := rk_bd hf
  obtain ⟨x1, e1, hf⟩ := hf
  refine AW_iV1iz (w_X10_isCargo (d := 1) (Nat.le_refl _) hM e1) dX10_telegraph_2 kl_X10_129 (hM.1 31 (by decide) (by decide)) rfl (Nat.le_trans (by decide) hd) (by decide) (Nat.le_of_ble_eq_true rfl) (fun _ => ?_)
  refine AW_if_eq 15 dX10_telegraph_5 (by decide) (fun h1 => ?_) (fun h1 => ?_)
  · replace hf := rk_it hf h1
    refine AW_bipush (v := (-2)) dX10_telegraph_15 (by decide) ?_
    exact AW_iret dX10_telegraph_17 rfl (hq _ _ (Option.some.inj hf).symm)
  · replace hf := rk_if hf h1
    refine AW_iload_n2 dX10_telegraph_8 ?_
    replace hf := rk_bd hf
    obtain ⟨x2, e2, hf⟩ := hf
    refine AW_iS1iz (w_X10_isHour (d := 1) (Nat.le_refl _) e2) dX10_telegraph_9 kl_X10_138 (Nat.le_trans (by decide) hd) (by decide) (Nat.le_of_ble_eq_true rfl) (fun _ => ?_)
    refine AW_if_ne 18 dX10_telegraph_12 (by decide) (fun h2 => ?_) (fun h2 => ?_)
    · replace hf := rk_if hf h2
      refine AW_aload_n0 dX10_telegraph_18 ?_
      refine AW_iload_n1 dX10_telegraph_19 ?_
      refine AW_iload_n2 dX10_telegraph_20 ?_
      refine AW_iconst (v := 1) dX10_telegraph_21 (by decide) ?_
      replace hf := rk_bd hf
      obtain ⟨I1, e3, hf⟩ := hf
      refine AW_iV3vz (w_X10_lays (d := 4) (Nat.le_refl _) hM e3) dX10_telegraph_22 kl_X10_164 (hM.1 31 (by decide) (by decide)) rfl (Nat.le_trans (by decide) hd) (by decide) (Nat.le_of_ble_eq_true rfl) (fun _ => ?_)
      refine AW_iconst (v := 0) dX10_telegraph_25 (by decide) ?_
      refine AW_istore_n3 dX10_telegraph_26 (by decide) rfl ?_
      refine AW_iconst (v := 0) dX10_telegraph_27 (by decide) ?_
      refine AW_istore_4 dX10_telegraph_28 (by decide) rfl ?_
      refine AW_sb (rk_sbs (rk_sbs (rk_sbs (rk_sbs (rk_sbs rk_sb0))))) ?_
      replace hf := rk_bd2 hf
      obtain ⟨x3, x4, e4, hf⟩ := hf
      obtain ⟨m1, e4⟩ := rk_while_sp e4
      refine L_X10_telegraph_w30 (Nat.le_trans (by decide) hd) hM ?_ m1 _ _ e4
      intro x3 x4 h9
      cases h9
      refine AW_iload_n3 dX10_telegraph_93 ?_
      exact AW_iret dX10_telegraph_94 rfl (hq _ _ (Option.some.inj hf).symm)
    · replace hf := rk_it hf h2
      refine AW_bipush (v := (-2)) dX10_telegraph_15 (by decide) ?_
      exact AW_iret dX10_telegraph_17 rfl (hq _ _ (Option.some.inj hf).symm)
theorem w_X10_telegraph {G : rk_G} {l : Launch} {d : Nat} {n : Nat} {S : rk_Sh} {I : rk_I} {J : rk_J} {R : rk_R} {a1 : Int32} {a2 : Int32} {v8 : Int32} {I8 : rk_I} (hd : 5 ≤ d) (hM : rk_LM S R) (hf : f_X10_telegraph I a1 a2 = some (v8, I8)) :
    CW G l yX10_telegraph cX10_telegraph 5 (some .int) d 0 0 [.ref 31, .int a1, .int a2] n S I J R (rk_qi v8 n S I8 J R True) :=
  CW.of (by decide +kernel) (Nat.le_of_ble_eq_true rfl) (rk_sbs (rk_sbs (rk_sbs (rk_sbe (rk_sbe rk_sb0))))) (b_X10_telegraph hd hM hf (fun v9 I9 h9 => by cases h9; exact ⟨rfl, rfl, rfl, rfl, rfl, rfl, trivial⟩))
noncomputable def f_X0_keep (S : rk_Sh) (I : rk_I) (R : rk_R) (a0 : Nat) : Option (rk_I) :=
(some (R a0 3)).bind fun q1 =>
(some (R a0 4)).bind fun q2 =>
(q2).bind fun o1 =>
(q1).bind fun o2 =>
(rk_al S o2).bind fun N1 =>
(rk_al S o1).bind fun N2 =>
(rk_cp I o2 N1 o1 N2 0 0 3).bind fun I1 =>
some I1
theorem b_X0_keep {G : rk_G} {l : Launch} {d kc ks : Nat} {n : Nat} {S : rk_Sh} {I : rk_I} {J : rk_J} {R : rk_R} {Q : rk_Q} {a0 : Nat} {r : rk_I} (hd : 1 ≤ d) (hS_a0 : S a0 = (0, 5)) (hf : f_X0_keep S I R a0 = some r) (hq : ∀ (I9 : rk_I), r = I9 → Q (none) n S I9 J R) :
    AW G l yX0_keep cX0_keep 1 none d kc ks 0 [some (.ref a0)] [] n S I J R Q := by
  unfold f_X0_keep at hf
  refine AW_aload_n0 dX0_keep_0 ?_
  replace hf := rk_bd hf
  obtain ⟨q1, e1, hf⟩ := hf
  refine AW_getQ dX0_keep_1 kf_X0_9 rfl hS_a0 (by decide) e1 ?_
  refine AW_iconst (v := 0) dX0_keep_4 (by decide) ?_
  refine AW_aload_n0 dX0_keep_5 ?_
  replace hf := rk_bd hf
  obtain ⟨q2, e2, hf⟩ := hf
  refine AW_getQ dX0_keep_6 kf_X0_15 rfl hS_a0 (by decide) e2 ?_
  refine AW_iconst (v := 0) dX0_keep_9 (by decide) ?_
  refine AW_iconst (v := 3) dX0_keep_10 (by decide) ?_
  replace hf := rk_bd hf
  obtain ⟨o1, e3, hf⟩ := hf
  subst e3
  replace hf := rk_bd hf
  obtain ⟨o2, e4, hf⟩ := hf
  subst e4
  replace hf := rk_bd hf
  obtain ⟨N1, e5, hf⟩ := hf
  have e5 := rk_al_sp e5
  replace hf := rk_bd hf
  obtain ⟨N2, e6, hf⟩ := hf
  have e6 := rk_al_sp e6
  replace hf := rk_bd hf
  obtain ⟨I1, e7, hf⟩ := hf
  refine AW_copy dX0_keep_11 kp_X0_28 e5 e6 e7 (Nat.le_trans (by decide) hd) (Nat.le_of_ble_eq_true rfl) ?_
  exact AW_vret dX0_keep_14 rfl (hq _ (Option.some.inj hf).symm)
theorem w_X0_keep {G : rk_G} {l : Launch} {d : Nat} {n : Nat} {S : rk_Sh} {I : rk_I} {J : rk_J} {R : rk_R} {a0 : Nat} {I8 : rk_I} (hd : 1 ≤ d) (hS_a0 : S a0 = (0, 5)) (hf : f_X0_keep S I R a0 = some I8) :
    CW G l yX0_keep cX0_keep 1 none d 0 0 [.ref a0] n S I J R (rk_qv n S I8 J R True) :=
  CW.of (by decide +kernel) (Nat.le_of_ble_eq_true rfl) (rk_sbs rk_sb0) (b_X0_keep hd hS_a0 hf (fun I9 h9 => by cases h9; exact ⟨rfl, rfl, rfl, rfl, rfl, rfl, trivial⟩))
noncomputable def f_X5_keep (I : rk_I) (a0 : Nat) : Option (rk_I) :=
(some (rk_ui I a0 9 (I a0 7))).bind fun I1 =>
(some (rk_ui I1 a0 10 (I1 a0 8))).bind fun I2 =>
some I2
theorem b_X5_keep {G : rk_G} {l : Launch} {d kc ks : Nat} {n : Nat} {S : rk_Sh} {I : rk_I} {J : rk_J} {R : rk_R} {Q : rk_Q} {a0 : Nat} {r : rk_I} (hS_a0 : S a0 = (5, 11)) (hf : f_X5_keep I a0 = some r) (hq : ∀ (I9 : rk_I), r = I9 → Q (none) n S I9 J R) :
    AW G l yX5_keep cX5_keep 1 none d kc ks 0 [some (.ref a0)] [] n S I J R Q := by
  unfold f_X5_keep at hf
  refine AW_aload_n0 dX5_keep_0 ?_
  refine AW_aload_n0 dX5_keep_1 ?_
  refine AW_getI dX5_keep_2 kf_X5_9 rfl hS_a0 (by decide) ?_
  replace hf := rk_bd hf
  obtain ⟨I1, e1, hf⟩ := hf
  refine AW_puI dX5_keep_5 kf_X5_15 rfl hS_a0 (by decide) e1 ?_
  refine AW_aload_n0 dX5_keep_8 ?_
  refine AW_aload_n0 dX5_keep_9 ?_
  refine AW_getI dX5_keep_10 kf_X5_69 rfl hS_a0 (by decide) ?_
  replace hf := rk_bd hf
  obtain ⟨I2, e2, hf⟩ := hf
  refine AW_puI dX5_keep_13 kf_X5_72 rfl hS_a0 (by decide) e2 ?_
  exact AW_vret dX5_keep_16 rfl (hq _ (Option.some.inj hf).symm)
theorem w_X5_keep {G : rk_G} {l : Launch} {d : Nat} {n : Nat} {S : rk_Sh} {I : rk_I} {J : rk_J} {R : rk_R} {a0 : Nat} {I8 : rk_I} (hS_a0 : S a0 = (5, 11)) (hf : f_X5_keep I a0 = some I8) :
    CW G l yX5_keep cX5_keep 1 none d 0 0 [.ref a0] n S I J R (rk_qv n S I8 J R True) :=
  CW.of (by decide +kernel) (Nat.le_of_ble_eq_true rfl) (rk_sbs rk_sb0) (b_X5_keep hS_a0 hf (fun I9 h9 => by cases h9; exact ⟨rfl, rfl, rfl, rfl, rfl, rfl, trivial⟩))
noncomputable def f_X9_image_l2 (S : rk_Sh) (I : rk_I) (R : rk_R) (s1 : Int32) : Option ((Int32 × rk_I) ⊕ (Int32 × rk_I)) :=
if (I 0 1) ≤ s1 then (
some (.inr (s1, I))) else (
(rk_rdR R 1 4 s1).bind fun q1 =>
(rk_dr S 0 5 q1).bind fun o1 =>
(f_X0_keep S I R o1).bind fun I1 =>
some (.inl ((s1 + 1), I1)))
theorem b_X9_image_l2 {G : rk_G} {l : Launch} {d kc ks : Nat} {n : Nat} {S : rk_Sh} {I : rk_I} {J : rk_J} {R : rk_R} {Q : rk_Q} {s1 : Int32} {r : (Int32 × rk_I) ⊕ (Int32 × rk_I)} (hd : 2 ≤ d) (hL : rk_LC S R) (hf : f_X9_image_l2 S I R s1 = some r) (hc : ∀ (w0 : Int32) (I9 : rk_I), r = .inl (w0, I9) → AW G l yX9_image cX9_image 2 (some .int) d kc ks 2 [some (.ref 0), some (.int w0)] [] n S I9 J R Q) (he : ∀ (w0 : Int32) (I9 : rk_I), r = .inr (w0, I9) → AW G l yX9_image cX9_image 2 (some .int) d kc ks 25 [some (.ref 0), some (.int w0)] [] n S I9 J R Q) :
    AW G l yX9_image cX9_image 2 (some .int) d kc ks 2 [some (.ref 0), some (.int s1)] [] n S I J R Q := by
  unfold f_X9_image_l2 at hf
  refine AW_iload_n1 dX9_image_2 ?_
  refine AW_aload_n0 dX9_image_3 ?_
  refine AW_getI dX9_image_4 kf_X9_103 rfl (hL.1 0 (by decide)) (by decide) ?_
  refine AW_icmp_ge 25 dX9_image_7 (by decide) (fun h1 => ?_) (fun h1 => ?_)
  · replace hf := rk_it hf h1
    refine AW_sb (rk_sbs (rk_sbs rk_sb0)) ?_
    exact he _ _ (Option.some.inj hf).symm
  · replace hf := rk_if hf h1
    refine AW_aload_n0 dX9_image_10 ?_
    refine AW_getR dX9_image_11 kf_X9_11 rfl (hL.1 0 (by decide)) (by decide) (hL.2 0 0 1 rfl) ?_
    refine AW_iload_n1 dX9_image_14 ?_
    replace hf := rk_bd hf
    obtain ⟨q1, e1, hf⟩ := hf
    refine AW_rdR dX9_image_15 (hL.1 1 (by decide)) (by decide) e1 ?_
    replace hf := rk_bd hf
    obtain ⟨o1, e2, hf⟩ := hf
    obtain ⟨e2, hS1⟩ := rk_dr_sp e2
    subst e2
    replace hf := rk_bd hf
    obtain ⟨I1, e3, hf⟩ := hf
    refine AW_iV0vz (w_X0_keep (d := 1) (Nat.le_refl _) hS1 e3) dX9_image_16 kl_X9_259 hS1 rfl (Nat.le_trans (by decide) hd) (by decide) (Nat.le_of_ble_eq_true rfl) (fun _ => ?_)
    refine AW_iinc_1 (v := 1) dX9_image_19 (by decide) (by decide) rfl ?_
    refine AW_goto 2 dX9_image_22 (by decide) ?_
    refine AW_sb (rk_sbs (rk_sbs rk_sb0)) ?_
    exact hc _ _ (Option.some.inj hf).symm
theorem L_X9_image_w2 {G : rk_G} {l : Launch} {d kc ks : Nat} {n : Nat} {S : rk_Sh} {J : rk_J} {R : rk_R} {Q : rk_Q}  {r : Int32 × rk_I} (hd : 2 ≤ d) (hL : rk_LC S R) (he : ∀ (w0 : Int32) (I9 : rk_I), r = (w0, I9) → AW G l yX9_image cX9_image 2 (some .int) d kc ks 25 [some (.ref 0), some (.int w0)] [] n S I9 J R Q) :
    ∀ (m9 : Nat) (s1 : Int32) (I : rk_I), rk_loop (fun a9 => f_X9_image_l2 S a9.2 R a9.1) m9 (s1, I) = some r → AW G l yX9_image cX9_image 2 (some .int) d kc ks 2 [some (.ref 0), some (.int s1)] [] n S I J R Q := by
  intro m9
  induction m9 with
  | zero => intro s1 I hf; cases hf
  | succ m9 ih =>
    intro s1 I hf 
    obtain ⟨r9, hf, hr⟩ := rk_loop_s hf
    exact b_X9_image_l2 hd hL hf (fun _ _ h9 => by subst h9; exact ih _ _ hr) (fun _ _ h9 => by subst h9; exact he _ _ hr.symm)
noncomputable def f_X9_image_l27 (S : rk_Sh) (I : rk_I) (R : rk_R) (s1 : Int32) : Option ((Int32 × rk_I) ⊕ (Int32 × rk_I)) :=
if (I 0 3) ≤ s1 then (
some (.inr (s1, I))) else (
(rk_rdR R 2 24 s1).bind fun q1 =>
(rk_dr S 5 11 q1).bind fun o1 =>
(f_X5_keep I o1).bind fun I1 =>
some (.inl ((s1 + 1), I1)))
theorem b_X9_image_l27 {G : rk_G} {l : Launch} {d kc ks : Nat} {n : Nat} {S : rk_Sh} {I : rk_I} {J : rk_J} {R : rk_R} {Q : rk_Q} {s1 : Int32} {r : (Int32 × rk_I) ⊕ (Int32 × rk_I)} (hd : 2 ≤ d) (hL : rk_LC S R) (hf : f_X9_image_l27 S I R s1 = some r) (hc : ∀ (w0 : Int32) (I9 : rk_I), r = .inl (w0, I9) → AW G l yX9_image cX9_image 2 (some .int) d kc ks 27 [some (.ref 0), some (.int w0)] [] n S I9 J R Q) (he : ∀ (w0 : Int32) (I9 : rk_I), r = .inr (w0, I9) → AW G l yX9_image cX9_image 2 (some .int) d kc ks 50 [some (.ref 0), some (.int w0)] [] n S I9 J R Q) :
    AW G l yX9_image cX9_image 2 (some .int) d kc ks 27 [some (.ref 0), some (.int s1)] [] n S I J R Q := by
  unfold f_X9_image_l27 at hf
  refine AW_iload_n1 dX9_image_27 ?_
  refine AW_aload_n0 dX9_image_28 ?_
  refine AW_getI dX9_image_29 kf_X9_125 rfl (hL.1 0 (by decide)) (by decide) ?_
  refine AW_icmp_ge 50 dX9_image_32 (by decide) (fun h1 => ?_) (fun h1 => ?_)
  · replace hf := rk_it hf h1
    refine AW_sb (rk_sbs (rk_sbs rk_sb0)) ?_
    exact he _ _ (Option.some.inj hf).symm
  · replace hf := rk_if hf h1
    refine AW_aload_n0 dX9_image_35 ?_
    refine AW_getR dX9_image_36 kf_X9_17 rfl (hL.1 0 (by decide)) (by decide) (hL.2 0 2 2 rfl) ?_
    refine AW_iload_n1 dX9_image_39 ?_
    replace hf := rk_bd hf
    obtain ⟨q1, e1, hf⟩ := hf
    refine AW_rdR dX9_image_40 (hL.1 2 (by decide)) (by decide) e1 ?_
    replace hf := rk_bd hf
    obtain ⟨o1, e2, hf⟩ := hf
    obtain ⟨e2, hS1⟩ := rk_dr_sp e2
    subst e2
    replace hf := rk_bd hf
    obtain ⟨I1, e3, hf⟩ := hf
    refine AW_iV0vz (w_X5_keep (d := 0) hS1 e3) dX9_image_41 kl_X9_262 hS1 rfl (Nat.le_trans (by decide) hd) (by decide) (Nat.le_of_ble_eq_true rfl) (fun _ => ?_)
    refine AW_iinc_1 (v := 1) dX9_image_44 (by decide) (by decide) rfl ?_
    refine AW_goto 27 dX9_image_47 (by decide) ?_
    refine AW_sb (rk_sbs (rk_sbs rk_sb0)) ?_
    exact hc _ _ (Option.some.inj hf).symm
theorem L_X9_image_w27 {G : rk_G} {l : Launch} {d kc ks : Nat} {n : Nat} {S : rk_Sh} {J : rk_J} {R : rk_R} {Q : rk_Q}  {r : Int32 × rk_I} (hd : 2 ≤ d) (hL : rk_LC S R) (he : ∀ (w0 : Int32) (I9 : rk_I), r = (w0, I9) → AW G l yX9_image cX9_image 2 (some .int) d kc ks 50 [some (.ref 0), some (.int w0)] [] n S I9 J R Q) :
    ∀ (m9 : Nat) (s1 : Int32) (I : rk_I), rk_loop (fun a9 => f_X9_image_l27 S a9.2 R a9.1) m9 (s1, I) = some r → AW G l yX9_image cX9_image 2 (some .int) d kc ks 27 [some (.ref 0), some (.int s1)] [] n S I J R Q := by
  intro m9
  induction m9 with
  | zero => intro s1 I hf; cases hf
  | succ m9 ih =>
    intro s1 I hf 
    obtain ⟨r9, hf, hr⟩ := rk_loop_s hf
    exact b_X9_image_l27 hd hL hf (fun _ _ h9 => by subst h9; exact ih _ _ hr) (fun _ _ h9 => by subst h9; exact he _ _ hr.symm)
noncomputable def f_X9_image (S : rk_Sh) (I : rk_I) (R : rk_R)  : Option (Int32 × rk_I) :=
rk_b2 (rk_while (fun a9 => f_X9_image_l2 S a9.2 R a9.1) (0, I)) fun x1 I1 =>
rk_b2 (rk_while (fun a9 => f_X9_image_l27 S a9.2 R a9.1) (0, I1)) fun x2 I2 =>
(some (rk_ui I2 0 13 1)).bind fun I3 =>
(some (rk_ui I3 0 14 (I3 0 1))).bind fun I4 =>
(some (rk_ui I4 0 15 (I4 0 3))).bind fun I5 =>
(some (rk_ui I5 0 16 (I5 0 6))).bind fun I6 =>
some ((I6 0 3), I6)
theorem b_X9_image {G : rk_G} {l : Launch} {d kc ks : Nat} {n : Nat} {S : rk_Sh} {I : rk_I} {J : rk_J} {R : rk_R} {Q : rk_Q}  {r : Int32 × rk_I} (hd : 2 ≤ d) (hL : rk_LC S R) (hf : f_X9_image S I R = some r) (hq : ∀ (v9 : Int32) (I9 : rk_I), r = (v9, I9) → Q (some (.int v9)) n S I9 J R) :
    AW G l yX9_image cX9_image 2 (some .int) d kc ks 0 [some (.ref 0), none] [] n S I J R Q := by
  unfold f_X9_image at hf
  refine AW_iconst (v := 0) dX9_image_0 (by decide) ?_
  refine AW_istore_n1 dX9_image_1 (by decide) rfl ?_
  refine AW_sb (rk_sbs (rk_sbs rk_sb0)) ?_
  replace hf := rk_bd2 hf
  obtain ⟨x1, I1, e1, hf⟩ := hf
  obtain ⟨m1, e1⟩ := rk_while_sp e1
  refine L_X9_image_w2 (Nat.le_trans (by decide) hd) hL ?_ m1 _ _ e1
  intro x1 I1 h9
  cases h9
  refine AW_iconst (v := 0) dX9_image_25 (by decide) ?_
  refine AW_istore_n1 dX9_image_26 (by decide) rfl ?_
  refine AW_sb (rk_sbs (rk_sbs rk_sb0)) ?_
  replace hf := rk_bd2 hf
  obtain ⟨x2, I2, e2, hf⟩ := hf
  obtain ⟨m2, e2⟩ := rk_while_sp e2
  refine L_X9_image_w27 (Nat.le_trans (by decide) hd) hL ?_ m2 _ _ e2
  intro x2 I2 h9
  cases h9
  refine AW_aload_n0 dX9_image_50 ?_
  refine AW_iconst (v := 1) dX9_image_51 (by decide) ?_
  replace hf := rk_bd hf
  obtain ⟨I3, e3, hf⟩ := hf
  refine AW_puZ dX9_image_52 kf_X9_263 rfl (hL.1 0 (by decide)) (by decide) (Or.inr rfl) e3 ?_
  refine AW_aload_n0 dX9_image_55 ?_
  refine AW_aload_n0 dX9_image_56 ?_
  refine AW_getI dX9_image_57 kf_X9_103 rfl (hL.1 0 (by decide)) (by decide) ?_
  replace hf := rk_bd hf
  obtain ⟨I4, e4, hf⟩ := hf
  refine AW_puI dX9_image_60 kf_X9_267 rfl (hL.1 0 (by decide)) (by decide) e4 ?_
  refine AW_aload_n0 dX9_image_63 ?_
  refine AW_aload_n0 dX9_image_64 ?_
  refine AW_getI dX9_image_65 kf_X9_125 rfl (hL.1 0 (by decide)) (by decide) ?_
  replace hf := rk_bd hf
  obtain ⟨I5, e5, hf⟩ := hf
  refine AW_puI dX9_image_68 kf_X9_270 rfl (hL.1 0 (by decide)) (by decide) e5 ?_
  refine AW_aload_n0 dX9_image_71 ?_
  refine AW_aload_n0 dX9_image_72 ?_
  refine AW_getI dX9_image_73 kf_X9_195 rfl (hL.1 0 (by decide)) (by decide) ?_
  replace hf := rk_bd hf
  obtain ⟨I6, e6, hf⟩ := hf
  refine AW_puI dX9_image_76 kf_X9_273 rfl (hL.1 0 (by decide)) (by decide) e6 ?_
  refine AW_aload_n0 dX9_image_79 ?_
  refine AW_getI dX9_image_80 kf_X9_125 rfl (hL.1 0 (by decide)) (by decide) ?_
  exact AW_iret dX9_image_83 rfl (hq _ _ (Option.some.inj hf).symm)
theorem w_X9_image {G : rk_G} {l : Launch} {d : Nat} {n : Nat} {S : rk_Sh} {I : rk_I} {J : rk_J} {R : rk_R}  {v8 : Int32} {I8 : rk_I} (hd : 2 ≤ d) (hL : rk_LC S R) (hf : f_X9_image S I R = some (v8, I8)) :
    CW G l yX9_image cX9_image 2 (some .int) d 0 0 [.ref 0] n S I J R (rk_qi v8 n S I8 J R True) :=
  CW.of (by decide +kernel) (Nat.le_of_ble_eq_true rfl) (rk_sbs (rk_sbe rk_sb0)) (b_X9_image hd hL hf (fun v9 I9 h9 => by cases h9; exact ⟨rfl, rfl, rfl, rfl, rfl, rfl, trivial⟩))
noncomputable def f_X10_image_l31 (I : rk_I) (s1 : Int32) : Option ((Int32 × rk_I) ⊕ (Int32 × rk_I)) :=
if (3 * (I 31 10)) ≤ s1 then (
some (.inr (s1, I))) else (
(rk_rd I 37 12 s1).bind fun x1 =>
(rk_wr I 50 12 s1 x1).bind fun I1 =>
some (.inl ((s1 + 1), I1)))
theorem b_X10_image_l31 {G : rk_G} {l : Launch} {d kc ks : Nat} {n : Nat} {S : rk_Sh} {I : rk_I} {J : rk_J} {R : rk_R} {Q : rk_Q} {s1 : Int32} {r : (Int32 × rk_I) ⊕ (Int32 × rk_I)} (hM : rk_LM S R) (hf : f_X10_image_l31 I s1 = some r) (hc : ∀ (w0 : Int32) (I9 : rk_I), r = .inl (w0, I9) → AW G l yX10_image cX10_image 2 (some .int) d kc ks 31 [some (.ref 31), some (.int w0)] [] n S I9 J R Q) (he : ∀ (w0 : Int32) (I9 : rk_I), r = .inr (w0, I9) → AW G l yX10_image cX10_image 2 (some .int) d kc ks 59 [some (.ref 31), some (.int w0)] [] n S I9 J R Q) :
    AW G l yX10_image cX10_image 2 (some .int) d kc ks 31 [some (.ref 31), some (.int s1)] [] n S I J R Q := by
  unfold f_X10_image_l31 at hf
  refine AW_iload_n1 dX10_image_31 ?_
  refine AW_iconst (v := 3) dX10_image_32 (by decide) ?_
  refine AW_aload_n0 dX10_image_33 ?_
  refine AW_getI dX10_image_34 kf_X10_111 rfl (hM.1 31 (by decide) (by decide)) (by decide) ?_
  refine AW_imul dX10_image_37 ?_
  refine AW_icmp_ge 59 dX10_image_38 (by decide) (fun h1 => ?_) (fun h1 => ?_)
  · replace hf := rk_it hf h1
    refine AW_sb (rk_sbs (rk_sbs rk_sb0)) ?_
    exact he _ _ (Option.some.inj hf).symm
  · replace hf := rk_if hf h1
    refine AW_aload_n0 dX10_image_41 ?_
    refine AW_getR dX10_image_42 kf_X10_68 rfl (hM.1 31 (by decide) (by decide)) (by decide) (hM.2 31 35 50 rfl) ?_
    refine AW_iload_n1 dX10_image_45 ?_
    refine AW_aload_n0 dX10_image_46 ?_
    refine AW_getR dX10_image_47 kf_X10_29 rfl (hM.1 31 (by decide) (by decide)) (by decide) (hM.2 31 9 37 rfl) ?_
    refine AW_iload_n1 dX10_image_50 ?_
    replace hf := rk_bd hf
    obtain ⟨x1, e1, hf⟩ := hf
    refine AW_rd dX10_image_51 (hM.1 37 (by decide) (by decide)) e1 ?_
    replace hf := rk_bd hf
    obtain ⟨I1, e2, hf⟩ := hf
    refine AW_wr dX10_image_52 (hM.1 50 (by decide) (by decide)) e2 ?_
    refine AW_iinc_1 (v := 1) dX10_image_53 (by decide) (by decide) rfl ?_
    refine AW_goto 31 dX10_image_56 (by decide) ?_
    refine AW_sb (rk_sbs (rk_sbs rk_sb0)) ?_
    exact hc _ _ (Option.some.inj hf).symm
theorem L_X10_image_w31 {G : rk_G} {l : Launch} {d kc ks : Nat} {n : Nat} {S : rk_Sh} {J : rk_J} {R : rk_R} {Q : rk_Q}  {r : Int32 × rk_I} (hM : rk_LM S R) (he : ∀ (w0 : Int32) (I9 : rk_I), r = (w0, I9) → AW G l yX10_image cX10_image 2 (some .int) d kc ks 59 [some (.ref 31), some (.int w0)] [] n S I9 J R Q) :
    ∀ (m9 : Nat) (s1 : Int32) (I : rk_I), rk_loop (fun a9 => f_X10_image_l31 a9.2 a9.1) m9 (s1, I) = some r → AW G l yX10_image cX10_image 2 (some .int) d kc ks 31 [some (.ref 31), some (.int s1)] [] n S I J R Q := by
  intro m9
  induction m9 with
  | zero => intro s1 I hf; cases hf
  | succ m9 ih =>
    intro s1 I hf 
    obtain ⟨r9, hf, hr⟩ := rk_loop_s hf
    exact b_X10_image_l31 hM hf (fun _ _ h9 => by subst h9; exact ih _ _ hr) (fun _ _ h9 => by subst h9; exact he _ _ hr.symm)
noncomputable def f_X10_image_l61 (I : rk_I) (s1 : Int32) : Option ((Int32 × rk_I) ⊕ (Int32 × rk_I)) :=
if (I 31 20) ≤ s1 then (
some (.inr (s1, I))) else (
(rk_rd I 45 24 s1).bind fun x1 =>
(rk_wr I 51 24 s1 x1).bind fun I1 =>
(rk_rd I1 46 24 s1).bind fun x2 =>
(rk_wr I1 52 24 s1 x2).bind fun I2 =>
some (.inl ((s1 + 1), I2)))
theorem b_X10_image_l61 {G : rk_G} {l : Launch} {d kc ks : Nat} {n : Nat} {S : rk_Sh} {I : rk_I} {J : rk_J} {R : rk_R} {Q : rk_Q} {s1 : Int32} {r : (Int32 × rk_I) ⊕ (Int32 × rk_I)} (hM : rk_LM S R) (hf : f_X10_image_l61 I s1 = some r) (hc : ∀ (w0 : Int32) (I9 : rk_I), r = .inl (w0, I9) → AW G l yX10_image cX10_image 2 (some .int) d kc ks 61 [some (.ref 31), some (.int w0)] [] n S I9 J R Q) (he : ∀ (w0 : Int32) (I9 : rk_I), r = .inr (w0, I9) → AW G l yX10_image cX10_image 2 (some .int) d kc ks 99 [some (.ref 31), some (.int w0)] [] n S I9 J R Q) :
    AW G l yX10_image cX10_image 2 (some .int) d kc ks 61 [some (.ref 31), some (.int s1)] [] n S I J R Q := by
  unfold f_X10_image_l61 at hf
  refine AW_iload_n1 dX10_image_61 ?_
  refine AW_aload_n0 dX10_image_62 ?_
  refine AW_getI dX10_image_63 kf_X10_118 rfl (hM.1 31 (by decide) (by decide)) (by decide) ?_
  refine AW_icmp_ge 99 dX10_image_66 (by decide) (fun h1 => ?_) (fun h1 => ?_)
  · replace hf := rk_it hf h1
    refine AW_sb (rk_sbs (rk_sbs rk_sb0)) ?_
    exact he _ _ (Option.some.inj hf).symm
  · replace hf := rk_if hf h1
    refine AW_aload_n0 dX10_image_69 ?_
    refine AW_getR dX10_image_70 kf_X10_71 rfl (hM.1 31 (by decide) (by decide)) (by decide) (hM.2 31 36 51 rfl) ?_
    refine AW_iload_n1 dX10_image_73 ?_
    refine AW_aload_n0 dX10_image_74 ?_
    refine AW_getR dX10_image_75 kf_X10_53 rfl (hM.1 31 (by decide) (by decide)) (by decide) (hM.2 31 18 45 rfl) ?_
    refine AW_iload_n1 dX10_image_78 ?_
    replace hf := rk_bd hf
    obtain ⟨x1, e1, hf⟩ := hf
    refine AW_rd dX10_image_79 (hM.1 45 (by decide) (by decide)) e1 ?_
    replace hf := rk_bd hf
    obtain ⟨I1, e2, hf⟩ := hf
    refine AW_wr dX10_image_80 (hM.1 51 (by decide) (by decide)) e2 ?_
    refine AW_aload_n0 dX10_image_81 ?_
    refine AW_getR dX10_image_82 kf_X10_74 rfl (hM.1 31 (by decide) (by decide)) (by decide) (hM.2 31 37 52 rfl) ?_
    refine AW_iload_n1 dX10_image_85 ?_
    refine AW_aload_n0 dX10_image_86 ?_
    refine AW_getR dX10_image_87 kf_X10_56 rfl (hM.1 31 (by decide) (by decide)) (by decide) (hM.2 31 19 46 rfl) ?_
    refine AW_iload_n1 dX10_image_90 ?_
    replace hf := rk_bd hf
    obtain ⟨x2, e3, hf⟩ := hf
    refine AW_rd dX10_image_91 (hM.1 46 (by decide) (by decide)) e3 ?_
    replace hf := rk_bd hf
    obtain ⟨I2, e4, hf⟩ := hf
    refine AW_wr dX10_image_92 (hM.1 52 (by decide) (by decide)) e4 ?_
    refine AW_iinc_1 (v := 1) dX10_image_93 (by decide) (by decide) rfl ?_
    refine AW_goto 61 dX10_image_96 (by decide) ?_
    refine AW_sb (rk_sbs (rk_sbs rk_sb0)) ?_
    exact hc _ _ (Option.some.inj hf).symm
theorem L_X10_image_w61 {G : rk_G} {l : Launch} {d kc ks : Nat} {n : Nat} {S : rk_Sh} {J : rk_J} {R : rk_R} {Q : rk_Q}  {r : Int32 × rk_I} (hM : rk_LM S R) (he : ∀ (w0 : Int32) (I9 : rk_I), r = (w0, I9) → AW G l yX10_image cX10_image 2 (some .int) d kc ks 99 [some (.ref 31), some (.int w0)] [] n S I9 J R Q) :
    ∀ (m9 : Nat) (s1 : Int32) (I : rk_I), rk_loop (fun a9 => f_X10_image_l61 a9.2 a9.1) m9 (s1, I) = some r → AW G l yX10_image cX10_image 2 (some .int) d kc ks 61 [some (.ref 31), some (.int s1)] [] n S I J R Q := by
  intro m9
  induction m9 with
  | zero => intro s1 I hf; cases hf
  | succ m9 ih =>
    intro s1 I hf 
    obtain ⟨r9, hf, hr⟩ := rk_loop_s hf
    exact b_X10_image_l61 hM hf (fun _ _ h9 => by subst h9; exact ih _ _ hr) (fun _ _ h9 => by subst h9; exact he _ _ hr.symm)
noncomputable def f_X10_image (I : rk_I)  : Option (Int32 × rk_I) :=
(some (rk_ui I 31 38 1)).bind fun I1 =>
(some (rk_ui I1 31 39 (I1 31 10))).bind fun I2 =>
(some (rk_ui I2 31 40 (I2 31 20))).bind fun I3 =>
(some (rk_ui I3 31 41 (I3 31 4))).bind fun I4 =>
rk_b2 (rk_while (fun a9 => f_X10_image_l31 a9.2 a9.1) (0, I4)) fun x1 I5 =>
rk_b2 (rk_while (fun a9 => f_X10_image_l61 a9.2 a9.1) (0, I5)) fun x2 I6 =>
some ((I6 31 20), I6)
theorem b_X10_image {G : rk_G} {l : Launch} {d kc ks : Nat} {n : Nat} {S : rk_Sh} {I : rk_I} {J : rk_J} {R : rk_R} {Q : rk_Q}  {r : Int32 × rk_I} (hM : rk_LM S R) (hf : f_X10_image I = some r) (hq : ∀ (v9 : Int32) (I9 : rk_I), r = (v9, I9) → Q (some (.int v9)) n S I9 J R) :
    AW G l yX10_image cX10_image 2 (some .int) d kc ks 0 [some (.ref 31), none] [] n S I J R Q := by
  unfold f_X10_image at hf
  refine AW_aload_n0 dX10_image_0 ?_
  refine AW_iconst (v := 1) dX10_image_1 (by decide) ?_
  replace hf := rk_bd hf
  obtain ⟨I1, e1, hf⟩ := hf
  refine AW_puZ dX10_image_2 kf_X10_356 rfl (hM.1 31 (by decide) (by decide)) (by decide) (Or.inr rfl) e1 ?_
  refine AW_aload_n0 dX10_image_5 ?_
  refine AW_aload_n0 dX10_image_6 ?_
  refine AW_getI dX10_image_7 kf_X10_111 rfl (hM.1 31 (by decide) (by decide)) (by decide) ?_
  replace hf := rk_bd hf
  obtain ⟨I2, e2, hf⟩ := hf
  refine AW_puI dX10_image_10 kf_X10_359 rfl (hM.1 31 (by decide) (by decide)) (by decide) e2 ?_
  refine AW_aload_n0 dX10_image_13 ?_
  refine AW_aload_n0 dX10_image_14 ?_
  refine AW_getI dX10_image_15 kf_X10_118 rfl (hM.1 31 (by decide) (by decide)) (by decide) ?_
  replace hf := rk_bd hf
  obtain ⟨I3, e3, hf⟩ := hf
  refine AW_puI dX10_image_18 kf_X10_362 rfl (hM.1 31 (by decide) (by decide)) (by decide) e3 ?_
  refine AW_aload_n0 dX10_image_21 ?_
  refine AW_aload_n0 dX10_image_22 ?_
  refine AW_getI dX10_image_23 kf_X10_309 rfl (hM.1 31 (by decide) (by decide)) (by decide) ?_
  replace hf := rk_bd hf
  obtain ⟨I4, e4, hf⟩ := hf
  refine AW_puI dX10_image_26 kf_X10_365 rfl (hM.1 31 (by decide) (by decide)) (by decide) e4 ?_
  refine AW_iconst (v := 0) dX10_image_29 (by decide) ?_
  refine AW_istore_n1 dX10_image_30 (by decide) rfl ?_
  refine AW_sb (rk_sbs (rk_sbs rk_sb0)) ?_
  replace hf := rk_bd2 hf
  obtain ⟨x1, I5, e5, hf⟩ := hf
  obtain ⟨m1, e5⟩ := rk_while_sp e5
  refine L_X10_image_w31 hM ?_ m1 _ _ e5
  intro x1 I5 h9
  cases h9
  refine AW_iconst (v := 0) dX10_image_59 (by decide) ?_
  refine AW_istore_n1 dX10_image_60 (by decide) rfl ?_
  refine AW_sb (rk_sbs (rk_sbs rk_sb0)) ?_
  replace hf := rk_bd2 hf
  obtain ⟨x2, I6, e6, hf⟩ := hf
  obtain ⟨m2, e6⟩ := rk_while_sp e6
  refine L_X10_image_w61 hM ?_ m2 _ _ e6
  intro x2 I6 h9
  cases h9
  refine AW_aload_n0 dX10_image_99 ?_
  refine AW_getI dX10_image_100 kf_X10_118 rfl (hM.1 31 (by decide) (by decide)) (by decide) ?_
  exact AW_iret dX10_image_103 rfl (hq _ _ (Option.some.inj hf).symm)
theorem w_X10_image {G : rk_G} {l : Launch} {d : Nat} {n : Nat} {S : rk_Sh} {I : rk_I} {J : rk_J} {R : rk_R}  {v8 : Int32} {I8 : rk_I} (hM : rk_LM S R) (hf : f_X10_image I = some (v8, I8)) :
    CW G l yX10_image cX10_image 2 (some .int) d 0 0 [.ref 31] n S I J R (rk_qi v8 n S I8 J R True) :=
  CW.of (by decide +kernel) (Nat.le_of_ble_eq_true rfl) (rk_sbs (rk_sbe rk_sb0)) (b_X10_image hM hf (fun v9 I9 h9 => by cases h9; exact ⟨rfl, rfl, rfl, rfl, rfl, rfl, trivial⟩))
noncomputable def f_X0_layBack (S : rk_Sh) (I : rk_I) (R : rk_R) (a0 : Nat) : Option (rk_I) :=
(some (R a0 4)).bind fun q1 =>
(some (R a0 3)).bind fun q2 =>
(q2).bind fun o1 =>
(q1).bind fun o2 =>
(rk_al S o2).bind fun N1 =>
(rk_al S o1).bind fun N2 =>
(rk_cp I o2 N1 o1 N2 0 0 3).bind fun I1 =>
some I1
theorem b_X0_layBack {G : rk_G} {l : Launch} {d kc ks : Nat} {n : Nat} {S : rk_Sh} {I : rk_I} {J : rk_J} {R : rk_R} {Q : rk_Q} {a0 : Nat} {r : rk_I} (hd : 1 ≤ d) (hS_a0 : S a0 = (0, 5)) (hf : f_X0_layBack S I R a0 = some r) (hq : ∀ (I9 : rk_I), r = I9 → Q (none) n S I9 J R) :
    AW G l yX0_layBack cX0_layBack 1 none d kc ks 0 [some (.ref a0)] [] n S I J R Q := by
  unfold f_X0_layBack at hf
  refine AW_aload_n0 dX0_layBack_0 ?_
  replace hf := rk_bd hf
  obtain ⟨q1, e1, hf⟩ := hf
  refine AW_getQ dX0_layBack_1 kf_X0_15 rfl hS_a0 (by decide) e1 ?_
  refine AW_iconst (v := 0) dX0_layBack_4 (by decide) ?_
  refine AW_aload_n0 dX0_layBack_5 ?_
  replace hf := rk_bd hf
  obtain ⟨q2, e2, hf⟩ := hf
  refine AW_getQ dX0_layBack_6 kf_X0_9 rfl hS_a0 (by decide) e2 ?_
  refine AW_iconst (v := 0) dX0_layBack_9 (by decide) ?_
  refine AW_iconst (v := 3) dX0_layBack_10 (by decide) ?_
  replace hf := rk_bd hf
  obtain ⟨o1, e3, hf⟩ := hf
  subst e3
  replace hf := rk_bd hf
  obtain ⟨o2, e4, hf⟩ := hf
  subst e4
  replace hf := rk_bd hf
  obtain ⟨N1, e5, hf⟩ := hf
  have e5 := rk_al_sp e5
  replace hf := rk_bd hf
  obtain ⟨N2, e6, hf⟩ := hf
  have e6 := rk_al_sp e6
  replace hf := rk_bd hf
  obtain ⟨I1, e7, hf⟩ := hf
  refine AW_copy dX0_layBack_11 kp_X0_28 e5 e6 e7 (Nat.le_trans (by decide) hd) (Nat.le_of_ble_eq_true rfl) ?_
  exact AW_vret dX0_layBack_14 rfl (hq _ (Option.some.inj hf).symm)
theorem w_X0_layBack {G : rk_G} {l : Launch} {d : Nat} {n : Nat} {S : rk_Sh} {I : rk_I} {J : rk_J} {R : rk_R} {a0 : Nat} {I8 : rk_I} (hd : 1 ≤ d) (hS_a0 : S a0 = (0, 5)) (hf : f_X0_layBack S I R a0 = some I8) :
    CW G l yX0_layBack cX0_layBack 1 none d 0 0 [.ref a0] n S I J R (rk_qv n S I8 J R True) :=
  CW.of (by decide +kernel) (Nat.le_of_ble_eq_true rfl) (rk_sbs rk_sb0) (b_X0_layBack hd hS_a0 hf (fun I9 h9 => by cases h9; exact ⟨rfl, rfl, rfl, rfl, rfl, rfl, trivial⟩))
noncomputable def f_X5_layBack (I : rk_I) (a0 : Nat) : Option (rk_I) :=
(some (rk_ui I a0 7 (I a0 9))).bind fun I1 =>
(some (rk_ui I1 a0 8 (I1 a0 10))).bind fun I2 =>
some I2
theorem b_X5_layBack {G : rk_G} {l : Launch} {d kc ks : Nat} {n : Nat} {S : rk_Sh} {I : rk_I} {J : rk_J} {R : rk_R} {Q : rk_Q} {a0 : Nat} {r : rk_I} (hS_a0 : S a0 = (5, 11)) (hf : f_X5_layBack I a0 = some r) (hq : ∀ (I9 : rk_I), r = I9 → Q (none) n S I9 J R) :
    AW G l yX5_layBack cX5_layBack 1 none d kc ks 0 [some (.ref a0)] [] n S I J R Q := by
  unfold f_X5_layBack at hf
  refine AW_aload_n0 dX5_layBack_0 ?_
  refine AW_aload_n0 dX5_layBack_1 ?_
  refine AW_getI dX5_layBack_2 kf_X5_15 rfl hS_a0 (by decide) ?_
  replace hf := rk_bd hf
  obtain ⟨I1, e1, hf⟩ := hf
  refine AW_puI dX5_layBack_5 kf_X5_9 rfl hS_a0 (by decide) e1 ?_
  refine AW_aload_n0 dX5_layBack_8 ?_
  refine AW_aload_n0 dX5_layBack_9 ?_
  refine AW_getI dX5_layBack_10 kf_X5_72 rfl hS_a0 (by decide) ?_
  replace hf := rk_bd hf
  obtain ⟨I2, e2, hf⟩ := hf
  refine AW_puI dX5_layBack_13 kf_X5_69 rfl hS_a0 (by decide) e2 ?_
  exact AW_vret dX5_layBack_16 rfl (hq _ (Option.some.inj hf).symm)
theorem w_X5_layBack {G : rk_G} {l : Launch} {d : Nat} {n : Nat} {S : rk_Sh} {I : rk_I} {J : rk_J} {R : rk_R} {a0 : Nat} {I8 : rk_I} (hS_a0 : S a0 = (5, 11)) (hf : f_X5_layBack I a0 = some I8) :
    CW G l yX5_layBack cX5_layBack 1 none d 0 0 [.ref a0] n S I J R (rk_qv n S I8 J R True) :=
  CW.of (by decide +kernel) (Nat.le_of_ble_eq_true rfl) (rk_sbs rk_sb0) (b_X5_layBack hS_a0 hf (fun I9 h9 => by cases h9; exact ⟨rfl, rfl, rfl, rfl, rfl, rfl, trivial⟩))
noncomputable def f_X9_back_l12 (S : rk_Sh) (I : rk_I) (R : rk_R) (s1 : Int32) : Option ((Int32 × rk_I) ⊕ (Int32 × rk_I)) :=
if (I 0 14) ≤ s1 then (
some (.inr (s1, I))) else (
(rk_rdR R 1 4 s1).bind fun q1 =>
(rk_dr S 0 5 q1).bind fun o1 =>
(f_X0_layBack S I R o1).bind fun I1 =>
some (.inl ((s1 + 1), I1)))
theorem b_X9_back_l12 {G : rk_G} {l : Launch} {d kc ks : Nat} {n : Nat} {S : rk_Sh} {I : rk_I} {J : rk_J} {R : rk_R} {Q : rk_Q} {s1 : Int32} {r : (Int32 × rk_I) ⊕ (Int32 × rk_I)} (hd : 2 ≤ d) (hL : rk_LC S R) (hf : f_X9_back_l12 S I R s1 = some r) (hc : ∀ (w0 : Int32) (I9 : rk_I), r = .inl (w0, I9) → AW G l yX9_back cX9_back 2 (some .int) d kc ks 12 [some (.ref 0), some (.int w0)] [] n S I9 J R Q) (he : ∀ (w0 : Int32) (I9 : rk_I), r = .inr (w0, I9) → AW G l yX9_back cX9_back 2 (some .int) d kc ks 35 [some (.ref 0), some (.int w0)] [] n S I9 J R Q) :
    AW G l yX9_back cX9_back 2 (some .int) d kc ks 12 [some (.ref 0), some (.int s1)] [] n S I J R Q := by
  unfold f_X9_back_l12 at hf
  refine AW_iload_n1 dX9_back_12 ?_
  refine AW_aload_n0 dX9_back_13 ?_
  refine AW_getI dX9_back_14 kf_X9_267 rfl (hL.1 0 (by decide)) (by decide) ?_
  refine AW_icmp_ge 35 dX9_back_17 (by decide) (fun h1 => ?_) (fun h1 => ?_)
  · replace hf := rk_it hf h1
    refine AW_sb (rk_sbs (rk_sbs rk_sb0)) ?_
    exact he _ _ (Option.some.inj hf).symm
  · replace hf := rk_if hf h1
    refine AW_aload_n0 dX9_back_20 ?_
    refine AW_getR dX9_back_21 kf_X9_11 rfl (hL.1 0 (by decide)) (by decide) (hL.2 0 0 1 rfl) ?_
    refine AW_iload_n1 dX9_back_24 ?_
    replace hf := rk_bd hf
    obtain ⟨q1, e1, hf⟩ := hf
    refine AW_rdR dX9_back_25 (hL.1 1 (by decide)) (by decide) e1 ?_
    replace hf := rk_bd hf
    obtain ⟨o1, e2, hf⟩ := hf
    obtain ⟨e2, hS1⟩ := rk_dr_sp e2
    subst e2
    replace hf := rk_bd hf
    obtain ⟨I1, e3, hf⟩ := hf
    refine AW_iV0vz (w_X0_layBack (d := 1) (Nat.le_refl _) hS1 e3) dX9_back_26 kl_X9_276 hS1 rfl (Nat.le_trans (by decide) hd) (by decide) (Nat.le_of_ble_eq_true rfl) (fun _ => ?_)
    refine AW_iinc_1 (v := 1) dX9_back_29 (by decide) (by decide) rfl ?_
    refine AW_goto 12 dX9_back_32 (by decide) ?_
    refine AW_sb (rk_sbs (rk_sbs rk_sb0)) ?_
    exact hc _ _ (Option.some.inj hf).symm
theorem L_X9_back_w12 {G : rk_G} {l : Launch} {d kc ks : Nat} {n : Nat} {S : rk_Sh} {J : rk_J} {R : rk_R} {Q : rk_Q}  {r : Int32 × rk_I} (hd : 2 ≤ d) (hL : rk_LC S R) (he : ∀ (w0 : Int32) (I9 : rk_I), r = (w0, I9) → AW G l yX9_back cX9_back 2 (some .int) d kc ks 35 [some (.ref 0), some (.int w0)] [] n S I9 J R Q) :
    ∀ (m9 : Nat) (s1 : Int32) (I : rk_I), rk_loop (fun a9 => f_X9_back_l12 S a9.2 R a9.1) m9 (s1, I) = some r → AW G l yX9_back cX9_back 2 (some .int) d kc ks 12 [some (.ref 0), some (.int s1)] [] n S I J R Q := by
  intro m9
  induction m9 with
  | zero => intro s1 I hf; cases hf
  | succ m9 ih =>
    intro s1 I hf 
    obtain ⟨r9, hf, hr⟩ := rk_loop_s hf
    exact b_X9_back_l12 hd hL hf (fun _ _ h9 => by subst h9; exact ih _ _ hr) (fun _ _ h9 => by subst h9; exact he _ _ hr.symm)
noncomputable def f_X9_back_l37 (S : rk_Sh) (I : rk_I) (R : rk_R) (s1 : Int32) : Option ((Int32 × rk_I) ⊕ (Int32 × rk_I)) :=
if (I 0 15) ≤ s1 then (
some (.inr (s1, I))) else (
(rk_rdR R 2 24 s1).bind fun q1 =>
(rk_dr S 5 11 q1).bind fun o1 =>
(f_X5_layBack I o1).bind fun I1 =>
some (.inl ((s1 + 1), I1)))
theorem b_X9_back_l37 {G : rk_G} {l : Launch} {d kc ks : Nat} {n : Nat} {S : rk_Sh} {I : rk_I} {J : rk_J} {R : rk_R} {Q : rk_Q} {s1 : Int32} {r : (Int32 × rk_I) ⊕ (Int32 × rk_I)} (hd : 2 ≤ d) (hL : rk_LC S R) (hf : f_X9_back_l37 S I R s1 = some r) (hc : ∀ (w0 : Int32) (I9 : rk_I), r = .inl (w0, I9) → AW G l yX9_back cX9_back 2 (some .int) d kc ks 37 [some (.ref 0), some (.int w0)] [] n S I9 J R Q) (he : ∀ (w0 : Int32) (I9 : rk_I), r = .inr (w0, I9) → AW G l yX9_back cX9_back 2 (some .int) d kc ks 60 [some (.ref 0), some (.int w0)] [] n S I9 J R Q) :
    AW G l yX9_back cX9_back 2 (some .int) d kc ks 37 [some (.ref 0), some (.int s1)] [] n S I J R Q := by
  unfold f_X9_back_l37 at hf
  refine AW_iload_n1 dX9_back_37 ?_
  refine AW_aload_n0 dX9_back_38 ?_
  refine AW_getI dX9_back_39 kf_X9_270 rfl (hL.1 0 (by decide)) (by decide) ?_
  refine AW_icmp_ge 60 dX9_back_42 (by decide) (fun h1 => ?_) (fun h1 => ?_)
  · replace hf := rk_it hf h1
    refine AW_sb (rk_sbs (rk_sbs rk_sb0)) ?_
    exact he _ _ (Option.some.inj hf).symm
  · replace hf := rk_if hf h1
    refine AW_aload_n0 dX9_back_45 ?_
    refine AW_getR dX9_back_46 kf_X9_17 rfl (hL.1 0 (by decide)) (by decide) (hL.2 0 2 2 rfl) ?_
    refine AW_iload_n1 dX9_back_49 ?_
    replace hf := rk_bd hf
    obtain ⟨q1, e1, hf⟩ := hf
    refine AW_rdR dX9_back_50 (hL.1 2 (by decide)) (by decide) e1 ?_
    replace hf := rk_bd hf
    obtain ⟨o1, e2, hf⟩ := hf
    obtain ⟨e2, hS1⟩ := rk_dr_sp e2
    subst e2
    replace hf := rk_bd hf
    obtain ⟨I1, e3, hf⟩ := hf
    refine AW_iV0vz (w_X5_layBack (d := 0) hS1 e3) dX9_back_51 kl_X9_279 hS1 rfl (Nat.le_trans (by decide) hd) (by decide) (Nat.le_of_ble_eq_true rfl) (fun _ => ?_)
    refine AW_iinc_1 (v := 1) dX9_back_54 (by decide) (by decide) rfl ?_
    refine AW_goto 37 dX9_back_57 (by decide) ?_
    refine AW_sb (rk_sbs (rk_sbs rk_sb0)) ?_
    exact hc _ _ (Option.some.inj hf).symm
theorem L_X9_back_w37 {G : rk_G} {l : Launch} {d kc ks : Nat} {n : Nat} {S : rk_Sh} {J : rk_J} {R : rk_R} {Q : rk_Q}  {r : Int32 × rk_I} (hd : 2 ≤ d) (hL : rk_LC S R) (he : ∀ (w0 : Int32) (I9 : rk_I), r = (w0, I9) → AW G l yX9_back cX9_back 2 (some .int) d kc ks 60 [some (.ref 0), some (.int w0)] [] n S I9 J R Q) :
    ∀ (m9 : Nat) (s1 : Int32) (I : rk_I), rk_loop (fun a9 => f_X9_back_l37 S a9.2 R a9.1) m9 (s1, I) = some r → AW G l yX9_back cX9_back 2 (some .int) d kc ks 37 [some (.ref 0), some (.int s1)] [] n S I J R Q := by
  intro m9
  induction m9 with
  | zero => intro s1 I hf; cases hf
  | succ m9 ih =>
    intro s1 I hf 
    obtain ⟨r9, hf, hr⟩ := rk_loop_s hf
    exact b_X9_back_l37 hd hL hf (fun _ _ h9 => by subst h9; exact ih _ _ hr) (fun _ _ h9 => by subst h9; exact he _ _ hr.symm)
noncomputable def f_X9_back (S : rk_Sh) (I : rk_I) (R : rk_R)  : Option (Int32 × rk_I) :=
if (I 0 13) = 0 then (
some ((-3), I)) else (
rk_b2 (rk_while (fun a9 => f_X9_back_l12 S a9.2 R a9.1) (0, I)) fun x1 I1 =>
rk_b2 (rk_while (fun a9 => f_X9_back_l37 S a9.2 R a9.1) (0, I1)) fun x2 I2 =>
(some (rk_ui I2 0 6 (I2 0 16))).bind fun I3 =>
some ((I3 0 3), I3))
theorem b_X9_back {G : rk_G} {l : Launch} {d kc ks : Nat} {n : Nat} {S : rk_Sh} {I : rk_I} {J : rk_J} {R : rk_R} {Q : rk_Q}  {r : Int32 × rk_I} (hd : 2 ≤ d) (hL : rk_LC S R) (hf : f_X9_back S I R = some r) (hq : ∀ (v9 : Int32) (I9 : rk_I), r = (v9, I9) → Q (some (.int v9)) n S I9 J R) :
    AW G l yX9_back cX9_back 2 (some .int) d kc ks 0 [some (.ref 0), none] [] n S I J R Q := by
  unfold f_X9_back at hf
  refine AW_aload_n0 dX9_back_0 ?_
  refine AW_getI dX9_back_1 kf_X9_263 rfl (hL.1 0 (by decide)) (by decide) ?_
  refine AW_if_ne 10 dX9_back_4 (by decide) (fun h1 => ?_) (fun h1 => ?_)
  · replace hf := rk_if hf h1
    refine AW_iconst (v := 0) dX9_back_10 (by decide) ?_
    refine AW_istore_n1 dX9_back_11 (by decide) rfl ?_
    refine AW_sb (rk_sbs (rk_sbs rk_sb0)) ?_
    replace hf := rk_bd2 hf
    obtain ⟨x1, I1, e1, hf⟩ := hf
    obtain ⟨m1, e1⟩ := rk_while_sp e1
    refine L_X9_back_w12 (Nat.le_trans (by decide) hd) hL ?_ m1 _ _ e1
    intro x1 I1 h9
    cases h9
    refine AW_iconst (v := 0) dX9_back_35 (by decide) ?_
    refine AW_istore_n1 dX9_back_36 (by decide) rfl ?_
    refine AW_sb (rk_sbs (rk_sbs rk_sb0)) ?_
    replace hf := rk_bd2 hf
    obtain ⟨x2, I2, e2, hf⟩ := hf
    obtain ⟨m2, e2⟩ := rk_while_sp e2
    refine L_X9_back_w37 (Nat.le_trans (by decide) hd) hL ?_ m2 _ _ e2
    intro x2 I2 h9
    cases h9
    refine AW_aload_n0 dX9_back_60 ?_
    refine AW_aload_n0 dX9_back_61 ?_
    refine AW_getI dX9_back_62 kf_X9_273 rfl (hL.1 0 (by decide)) (by decide) ?_
    replace hf := rk_bd hf
    obtain ⟨I3, e3, hf⟩ := hf
    refine AW_puI dX9_back_65 kf_X9_195 rfl (hL.1 0 (by decide)) (by decide) e3 ?_
    refine AW_aload_n0 dX9_back_68 ?_
    refine AW_getI dX9_back_69 kf_X9_125 rfl (hL.1 0 (by decide)) (by decide) ?_
    exact AW_iret dX9_back_72 rfl (hq _ _ (Option.some.inj hf).symm)
  · replace hf := rk_it hf h1
    refine AW_bipush (v := (-3)) dX9_back_7 (by decide) ?_
    exact AW_iret dX9_back_9 rfl (hq _ _ (Option.some.inj hf).symm)
theorem w_X9_back {G : rk_G} {l : Launch} {d : Nat} {n : Nat} {S : rk_Sh} {I : rk_I} {J : rk_J} {R : rk_R}  {v8 : Int32} {I8 : rk_I} (hd : 2 ≤ d) (hL : rk_LC S R) (hf : f_X9_back S I R = some (v8, I8)) :
    CW G l yX9_back cX9_back 2 (some .int) d 0 0 [.ref 0] n S I J R (rk_qi v8 n S I8 J R True) :=
  CW.of (by decide +kernel) (Nat.le_of_ble_eq_true rfl) (rk_sbs (rk_sbe rk_sb0)) (b_X9_back hd hL hf (fun v9 I9 h9 => by cases h9; exact ⟨rfl, rfl, rfl, rfl, rfl, rfl, trivial⟩))
noncomputable def f_X10_back_l20 (I : rk_I) (s1 : Int32) : Option ((Int32 × rk_I) ⊕ (Int32 × rk_I)) :=
if (3 * (I 31 39)) ≤ s1 then (
some (.inr (s1, I))) else (
(rk_rd I 50 12 s1).bind fun x1 =>
(rk_wr I 37 12 s1 x1).bind fun I1 =>
some (.inl ((s1 + 1), I1)))
theorem b_X10_back_l20 {G : rk_G} {l : Launch} {d kc ks : Nat} {n : Nat} {S : rk_Sh} {I : rk_I} {J : rk_J} {R : rk_R} {Q : rk_Q} {s1 : Int32} {r : (Int32 × rk_I) ⊕ (Int32 × rk_I)} (hM : rk_LM S R) (hf : f_X10_back_l20 I s1 = some r) (hc : ∀ (w0 : Int32) (I9 : rk_I), r = .inl (w0, I9) → AW G l yX10_back cX10_back 2 (some .int) d kc ks 20 [some (.ref 31), some (.int w0)] [] n S I9 J R Q) (he : ∀ (w0 : Int32) (I9 : rk_I), r = .inr (w0, I9) → AW G l yX10_back cX10_back 2 (some .int) d kc ks 48 [some (.ref 31), some (.int w0)] [] n S I9 J R Q) :
    AW G l yX10_back cX10_back 2 (some .int) d kc ks 20 [some (.ref 31), some (.int s1)] [] n S I J R Q := by
  unfold f_X10_back_l20 at hf
  refine AW_iload_n1 dX10_back_20 ?_
  refine AW_iconst (v := 3) dX10_back_21 (by decide) ?_
  refine AW_aload_n0 dX10_back_22 ?_
  refine AW_getI dX10_back_23 kf_X10_359 rfl (hM.1 31 (by decide) (by decide)) (by decide) ?_
  refine AW_imul dX10_back_26 ?_
  refine AW_icmp_ge 48 dX10_back_27 (by decide) (fun h1 => ?_) (fun h1 => ?_)
  · replace hf := rk_it hf h1
    refine AW_sb (rk_sbs (rk_sbs rk_sb0)) ?_
    exact he _ _ (Option.some.inj hf).symm
  · replace hf := rk_if hf h1
    refine AW_aload_n0 dX10_back_30 ?_
    refine AW_getR dX10_back_31 kf_X10_29 rfl (hM.1 31 (by decide) (by decide)) (by decide) (hM.2 31 9 37 rfl) ?_
    refine AW_iload_n1 dX10_back_34 ?_
    refine AW_aload_n0 dX10_back_35 ?_
    refine AW_getR dX10_back_36 kf_X10_68 rfl (hM.1 31 (by decide) (by decide)) (by decide) (hM.2 31 35 50 rfl) ?_
    refine AW_iload_n1 dX10_back_39 ?_
    replace hf := rk_bd hf
    obtain ⟨x1, e1, hf⟩ := hf
    refine AW_rd dX10_back_40 (hM.1 50 (by decide) (by decide)) e1 ?_
    replace hf := rk_bd hf
    obtain ⟨I1, e2, hf⟩ := hf
    refine AW_wr dX10_back_41 (hM.1 37 (by decide) (by decide)) e2 ?_
    refine AW_iinc_1 (v := 1) dX10_back_42 (by decide) (by decide) rfl ?_
    refine AW_goto 20 dX10_back_45 (by decide) ?_
    refine AW_sb (rk_sbs (rk_sbs rk_sb0)) ?_
    exact hc _ _ (Option.some.inj hf).symm
theorem L_X10_back_w20 {G : rk_G} {l : Launch} {d kc ks : Nat} {n : Nat} {S : rk_Sh} {J : rk_J} {R : rk_R} {Q : rk_Q}  {r : Int32 × rk_I} (hM : rk_LM S R) (he : ∀ (w0 : Int32) (I9 : rk_I), r = (w0, I9) → AW G l yX10_back cX10_back 2 (some .int) d kc ks 48 [some (.ref 31), some (.int w0)] [] n S I9 J R Q) :
    ∀ (m9 : Nat) (s1 : Int32) (I : rk_I), rk_loop (fun a9 => f_X10_back_l20 a9.2 a9.1) m9 (s1, I) = some r → AW G l yX10_back cX10_back 2 (some .int) d kc ks 20 [some (.ref 31), some (.int s1)] [] n S I J R Q := by
  intro m9
  induction m9 with
  | zero => intro s1 I hf; cases hf
  | succ m9 ih =>
    intro s1 I hf 
    obtain ⟨r9, hf, hr⟩ := rk_loop_s hf
    exact b_X10_back_l20 hM hf (fun _ _ h9 => by subst h9; exact ih _ _ hr) (fun _ _ h9 => by subst h9; exact he _ _ hr.symm)
noncomputable def f_X10_back_l50 (I : rk_I) (s1 : Int32) : Option ((Int32 × rk_I) ⊕ (Int32 × rk_I)) :=
if (I 31 40) ≤ s1 then (
some (.inr (s1, I))) else (
(rk_rd I 51 24 s1).bind fun x1 =>
(rk_wr I 45 24 s1 x1).bind fun I1 =>
(rk_rd I1 52 24 s1).bind fun x2 =>
(rk_wr I1 46 24 s1 x2).bind fun I2 =>
some (.inl ((s1 + 1), I2)))
theorem b_X10_back_l50 {G : rk_G} {l : Launch} {d kc ks : Nat} {n : Nat} {S : rk_Sh} {I : rk_I} {J : rk_J} {R : rk_R} {Q : rk_Q} {s1 : Int32} {r : (Int32 × rk_I) ⊕ (Int32 × rk_I)} (hM : rk_LM S R) (hf : f_X10_back_l50 I s1 = some r) (hc : ∀ (w0 : Int32) (I9 : rk_I), r = .inl (w0, I9) → AW G l yX10_back cX10_back 2 (some .int) d kc ks 50 [some (.ref 31), some (.int w0)] [] n S I9 J R Q) (he : ∀ (w0 : Int32) (I9 : rk_I), r = .inr (w0, I9) → AW G l yX10_back cX10_back 2 (some .int) d kc ks 88 [some (.ref 31), some (.int w0)] [] n S I9 J R Q) :
    AW G l yX10_back cX10_back 2 (some .int) d kc ks 50 [some (.ref 31), some (.int s1)] [] n S I J R Q := by
  unfold f_X10_back_l50 at hf
  refine AW_iload_n1 dX10_back_50 ?_
  refine AW_aload_n0 dX10_back_51 ?_
  refine AW_getI dX10_back_52 kf_X10_362 rfl (hM.1 31 (by decide) (by decide)) (by decide) ?_
  refine AW_icmp_ge 88 dX10_back_55 (by decide) (fun h1 => ?_) (fun h1 => ?_)
  · replace hf := rk_it hf h1
    refine AW_sb (rk_sbs (rk_sbs rk_sb0)) ?_
    exact he _ _ (Option.some.inj hf).symm
  · replace hf := rk_if hf h1
    refine AW_aload_n0 dX10_back_58 ?_
    refine AW_getR dX10_back_59 kf_X10_53 rfl (hM.1 31 (by decide) (by decide)) (by decide) (hM.2 31 18 45 rfl) ?_
    refine AW_iload_n1 dX10_back_62 ?_
    refine AW_aload_n0 dX10_back_63 ?_
    refine AW_getR dX10_back_64 kf_X10_71 rfl (hM.1 31 (by decide) (by decide)) (by decide) (hM.2 31 36 51 rfl) ?_
    refine AW_iload_n1 dX10_back_67 ?_
    replace hf := rk_bd hf
    obtain ⟨x1, e1, hf⟩ := hf
    refine AW_rd dX10_back_68 (hM.1 51 (by decide) (by decide)) e1 ?_
    replace hf := rk_bd hf
    obtain ⟨I1, e2, hf⟩ := hf
    refine AW_wr dX10_back_69 (hM.1 45 (by decide) (by decide)) e2 ?_
    refine AW_aload_n0 dX10_back_70 ?_
    refine AW_getR dX10_back_71 kf_X10_56 rfl (hM.1 31 (by decide) (by decide)) (by decide) (hM.2 31 19 46 rfl) ?_
    refine AW_iload_n1 dX10_back_74 ?_
    refine AW_aload_n0 dX10_back_75 ?_
    refine AW_getR dX10_back_76 kf_X10_74 rfl (hM.1 31 (by decide) (by decide)) (by decide) (hM.2 31 37 52 rfl) ?_
    refine AW_iload_n1 dX10_back_79 ?_
    replace hf := rk_bd hf
    obtain ⟨x2, e3, hf⟩ := hf
    refine AW_rd dX10_back_80 (hM.1 52 (by decide) (by decide)) e3 ?_
    replace hf := rk_bd hf
    obtain ⟨I2, e4, hf⟩ := hf
    refine AW_wr dX10_back_81 (hM.1 46 (by decide) (by decide)) e4 ?_
    refine AW_iinc_1 (v := 1) dX10_back_82 (by decide) (by decide) rfl ?_
    refine AW_goto 50 dX10_back_85 (by decide) ?_
    refine AW_sb (rk_sbs (rk_sbs rk_sb0)) ?_
    exact hc _ _ (Option.some.inj hf).symm
theorem L_X10_back_w50 {G : rk_G} {l : Launch} {d kc ks : Nat} {n : Nat} {S : rk_Sh} {J : rk_J} {R : rk_R} {Q : rk_Q}  {r : Int32 × rk_I} (hM : rk_LM S R) (he : ∀ (w0 : Int32) (I9 : rk_I), r = (w0, I9) → AW G l yX10_back cX10_back 2 (some .int) d kc ks 88 [some (.ref 31), some (.int w0)] [] n S I9 J R Q) :
    ∀ (m9 : Nat) (s1 : Int32) (I : rk_I), rk_loop (fun a9 => f_X10_back_l50 a9.2 a9.1) m9 (s1, I) = some r → AW G l yX10_back cX10_back 2 (some .int) d kc ks 50 [some (.ref 31), some (.int s1)] [] n S I J R Q := by
  intro m9
  induction m9 with
  | zero => intro s1 I hf; cases hf
  | succ m9 ih =>
    intro s1 I hf 
    obtain ⟨r9, hf, hr⟩ := rk_loop_s hf
    exact b_X10_back_l50 hM hf (fun _ _ h9 => by subst h9; exact ih _ _ hr) (fun _ _ h9 => by subst h9; exact he _ _ hr.symm)
noncomputable def f_X10_back (I : rk_I)  : Option (Int32 × rk_I) :=
if (I 31 38) = 0 then (
some ((-3), I)) else (
(some (rk_ui I 31 4 (I 31 41))).bind fun I1 =>
rk_b2 (rk_while (fun a9 => f_X10_back_l20 a9.2 a9.1) (0, I1)) fun x1 I2 =>
rk_b2 (rk_while (fun a9 => f_X10_back_l50 a9.2 a9.1) (0, I2)) fun x2 I3 =>
some ((I3 31 20), I3))
theorem b_X10_back {G : rk_G} {l : Launch} {d kc ks : Nat} {n : Nat} {S : rk_Sh} {I : rk_I} {J : rk_J} {R : rk_R} {Q : rk_Q}  {r : Int32 × rk_I} (hM : rk_LM S R) (hf : f_X10_back I = some r) (hq : ∀ (v9 : Int32) (I9 : rk_I), r = (v9, I9) → Q (some (.int v9)) n S I9 J R) :
    AW G l yX10_back cX10_back 2 (some .int) d kc ks 0 [some (.ref 31), none] [] n S I J R Q := by
  unfold f_X10_back at hf
  refine AW_aload_n0 dX10_back_0 ?_
  refine AW_getI dX10_back_1 kf_X10_356 rfl (hM.1 31 (by decide) (by decide)) (by decide) ?_
  refine AW_if_ne 10 dX10_back_4 (by decide) (fun h1 => ?_) (fun h1 => ?_)
  · replace hf := rk_if hf h1
    refine AW_aload_n0 dX10_back_10 ?_
    refine AW_aload_n0 dX10_back_11 ?_
    refine AW_getI dX10_back_12 kf_X10_365 rfl (hM.1 31 (by decide) (by decide)) (by decide) ?_
    replace hf := rk_bd hf
    obtain ⟨I1, e1, hf⟩ := hf
    refine AW_puI dX10_back_15 kf_X10_309 rfl (hM.1 31 (by decide) (by decide)) (by decide) e1 ?_
    refine AW_iconst (v := 0) dX10_back_18 (by decide) ?_
    refine AW_istore_n1 dX10_back_19 (by decide) rfl ?_
    refine AW_sb (rk_sbs (rk_sbs rk_sb0)) ?_
    replace hf := rk_bd2 hf
    obtain ⟨x1, I2, e2, hf⟩ := hf
    obtain ⟨m1, e2⟩ := rk_while_sp e2
    refine L_X10_back_w20 hM ?_ m1 _ _ e2
    intro x1 I2 h9
    cases h9
    refine AW_iconst (v := 0) dX10_back_48 (by decide) ?_
    refine AW_istore_n1 dX10_back_49 (by decide) rfl ?_
    refine AW_sb (rk_sbs (rk_sbs rk_sb0)) ?_
    replace hf := rk_bd2 hf
    obtain ⟨x2, I3, e3, hf⟩ := hf
    obtain ⟨m2, e3⟩ := rk_while_sp e3
    refine L_X10_back_w50 hM ?_ m2 _ _ e3
    intro x2 I3 h9
    cases h9
    refine AW_aload_n0 dX10_back_88 ?_
    refine AW_getI dX10_back_89 kf_X10_118 rfl (hM.1 31 (by decide) (by decide)) (by decide) ?_
    exact AW_iret dX10_back_92 rfl (hq _ _ (Option.some.inj hf).symm)
  · replace hf := rk_it hf h1
    refine AW_bipush (v := (-3)) dX10_back_7 (by decide) ?_
    exact AW_iret dX10_back_9 rfl (hq _ _ (Option.some.inj hf).symm)
theorem w_X10_back {G : rk_G} {l : Launch} {d : Nat} {n : Nat} {S : rk_Sh} {I : rk_I} {J : rk_J} {R : rk_R}  {v8 : Int32} {I8 : rk_I} (hM : rk_LM S R) (hf : f_X10_back I = some (v8, I8)) :
    CW G l yX10_back cX10_back 2 (some .int) d 0 0 [.ref 31] n S I J R (rk_qi v8 n S I8 J R True) :=
  CW.of (by decide +kernel) (Nat.le_of_ble_eq_true rfl) (rk_sbs (rk_sbe rk_sb0)) (b_X10_back hM hf (fun v9 I9 h9 => by cases h9; exact ⟨rfl, rfl, rfl, rfl, rfl, rfl, trivial⟩))
noncomputable def f_X9_papersHandedOn_l4 (S : rk_Sh) (I : rk_I) (R : rk_R) (s1 : Int32) (s2 : Int32) : Option ((Int32 × Int32) ⊕ (Int32 × Int32)) :=
if (I 0 3) ≤ s2 then (
some (.inr (s1, s2))) else (
(rk_rdR R 2 24 s2).bind fun q1 =>
(rk_dr S 5 11 q1).bind fun o1 =>
if (I o1 7) = (-1) then (
some (.inl (s1, (s2 + 1)))) else (
some (.inl ((s1 + 1), (s2 + 1)))))
theorem b_X9_papersHandedOn_l4 {G : rk_G} {l : Launch} {d kc ks : Nat} {n : Nat} {S : rk_Sh} {I : rk_I} {J : rk_J} {R : rk_R} {Q : rk_Q} {s1 : Int32} {s2 : Int32} {r : (Int32 × Int32) ⊕ (Int32 × Int32)} (hL : rk_LC S R) (hf : f_X9_papersHandedOn_l4 S I R s1 s2 = some r) (hc : ∀ (w0 : Int32) (w1 : Int32), r = .inl (w0, w1) → AW G l yX9_papersHandedOn cX9_papersHandedOn 3 (some .int) d kc ks 4 [some (.ref 0), some (.int w0), some (.int w1)] [] n S I J R Q) (he : ∀ (w0 : Int32) (w1 : Int32), r = .inr (w0, w1) → AW G l yX9_papersHandedOn cX9_papersHandedOn 3 (some .int) d kc ks 34 [some (.ref 0), some (.int w0), some (.int w1)] [] n S I J R Q) :
    AW G l yX9_papersHandedOn cX9_papersHandedOn 3 (some .int) d kc ks 4 [some (.ref 0), some (.int s1), some (.int s2)] [] n S I J R Q := by
  unfold f_X9_papersHandedOn_l4 at hf
  refine AW_iload_n2 dX9_papersHandedOn_4 ?_
  refine AW_aload_n0 dX9_papersHandedOn_5 ?_
  refine AW_getI dX9_papersHandedOn_6 kf_X9_125 rfl (hL.1 0 (by decide)) (by decide) ?_
  refine AW_icmp_ge 34 dX9_papersHandedOn_9 (by decide) (fun h1 => ?_) (fun h1 => ?_)
  · replace hf := rk_it hf h1
    refine AW_sb (rk_sbs (rk_sbs (rk_sbs rk_sb0))) ?_
    exact he _ _ (Option.some.inj hf).symm
  · replace hf := rk_if hf h1
    refine AW_aload_n0 dX9_papersHandedOn_12 ?_
    refine AW_getR dX9_papersHandedOn_13 kf_X9_17 rfl (hL.1 0 (by decide)) (by decide) (hL.2 0 2 2 rfl) ?_
    refine AW_iload_n2 dX9_papersHandedOn_16 ?_
    replace hf := rk_bd hf
    obtain ⟨q1, e1, hf⟩ := hf
    refine AW_rdR dX9_papersHandedOn_17 (hL.1 2 (by decide)) (by decide) e1 ?_
    replace hf := rk_bd hf
    obtain ⟨o1, e2, hf⟩ := hf
    obtain ⟨e2, hS1⟩ := rk_dr_sp e2
    subst e2
    refine AW_getI dX9_papersHandedOn_18 kf_X9_135 rfl hS1 (by decide) ?_
    refine AW_iconst (v := (-1)) dX9_papersHandedOn_21 (by decide) ?_
    refine AW_icmp_eq 28 dX9_papersHandedOn_22 (by decide) (fun h2 => ?_) (fun h2 => ?_)
    · replace hf := rk_it hf h2
      refine AW_iinc_2 (v := 1) dX9_papersHandedOn_28 (by decide) (by decide) rfl ?_
      refine AW_goto 4 dX9_papersHandedOn_31 (by decide) ?_
      refine AW_sb (rk_sbs (rk_sbs (rk_sbs rk_sb0))) ?_
      exact hc _ _ (Option.some.inj hf).symm
    · replace hf := rk_if hf h2
      refine AW_iinc_1 (v := 1) dX9_papersHandedOn_25 (by decide) (by decide) rfl ?_
      refine AW_iinc_2 (v := 1) dX9_papersHandedOn_28 (by decide) (by decide) rfl ?_
      refine AW_goto 4 dX9_papersHandedOn_31 (by decide) ?_
      refine AW_sb (rk_sbs (rk_sbs (rk_sbs rk_sb0))) ?_
      exact hc _ _ (Option.some.inj hf).symm
theorem L_X9_papersHandedOn_w4 {G : rk_G} {l : Launch} {d kc ks : Nat} {n : Nat} {S : rk_Sh} {I : rk_I} {J : rk_J} {R : rk_R} {Q : rk_Q}  {r : Int32 × Int32} (hL : rk_LC S R) (he : ∀ (w0 : Int32) (w1 : Int32), r = (w0, w1) → AW G l yX9_papersHandedOn cX9_papersHandedOn 3 (some .int) d kc ks 34 [some (.ref 0), some (.int w0), some (.int w1)] [] n S I J R Q) :
    ∀ (m9 : Nat) (s1 : Int32) (s2 : Int32) , rk_loop (fun a9 => f_X9_papersHandedOn_l4 S I R a9.1 a9.2) m9 (s1, s2) = some r → AW G l yX9_papersHandedOn cX9_papersHandedOn 3 (some .int) d kc ks 4 [some (.ref 0), some (.int s1), some (.int s2)] [] n S I J R Q := by
  intro m9
  induction m9 with
  | zero => intro s1 s2 hf; cases hf
  | succ m9 ih =>
    intro s1 s2 hf 
    obtain ⟨r9, hf, hr⟩ := rk_loop_s hf
    exact b_X9_papersHandedOn_l4 hL hf (fun _ _ h9 => by subst h9; exact ih _ _ hr) (fun _ _ h9 => by subst h9; exact he _ _ hr.symm)
noncomputable def f_X9_papersHandedOn (S : rk_Sh) (I : rk_I) (R : rk_R)  : Option (Int32) :=
rk_b2 (rk_while (fun a9 => f_X9_papersHandedOn_l4 S I R a9.1 a9.2) (0, 0)) fun x1 x2 =>
some x1
theorem b_X9_papersHandedOn {G : rk_G} {l : Launch} {d kc ks : Nat} {n : Nat} {S : rk_Sh} {I : rk_I} {J : rk_J} {R : rk_R} {Q : rk_Q}  {r : Int32} (hL : rk_LC S R) (hf : f_X9_papersHandedOn S I R = some r) (hq : ∀ (v9 : Int32), r = v9 → Q (some (.int v9)) n S I J R) :
    AW G l yX9_papersHandedOn cX9_papersHandedOn 3 (some .int) d kc ks 0 [some (.ref 0), none, none] [] n S I J R Q := by
  unfold f_X9_papersHandedOn at hf
  refine AW_iconst (v := 0) dX9_papersHandedOn_0 (by decide) ?_
  refine AW_istore_n1 dX9_papersHandedOn_1 (by decide) rfl ?_
  refine AW_iconst (v := 0) dX9_papersHandedOn_2 (by decide) ?_
  refine AW_istore_n2 dX9_papersHandedOn_3 (by decide) rfl ?_
  refine AW_sb (rk_sbs (rk_sbs (rk_sbs rk_sb0))) ?_
  replace hf := rk_bd2 hf
  obtain ⟨x1, x2, e1, hf⟩ := hf
  obtain ⟨m1, e1⟩ := rk_while_sp e1
  refine L_X9_papersHandedOn_w4 hL ?_ m1 _ _ e1
  intro x1 x2 h9
  cases h9
  refine AW_iload_n1 dX9_papersHandedOn_34 ?_
  exact AW_iret dX9_papersHandedOn_35 rfl (hq _ (Option.some.inj hf).symm)
theorem w_X9_papersHandedOn {G : rk_G} {l : Launch} {d : Nat} {n : Nat} {S : rk_Sh} {I : rk_I} {J : rk_J} {R : rk_R}  {v8 : Int32} (hL : rk_LC S R) (hf : f_X9_papersHandedOn S I R = some v8) :
    CW G l yX9_papersHandedOn cX9_papersHandedOn 3 (some .int) d 0 0 [.ref 0] n S I J R (rk_qi v8 n S I J R True) :=
  CW.of (by decide +kernel) (Nat.le_of_ble_eq_true rfl) (rk_sbs (rk_sbe (rk_sbe rk_sb0))) (b_X9_papersHandedOn hL hf (fun v9 h9 => by cases h9; exact ⟨rfl, rfl, rfl, rfl, rfl, rfl, trivial⟩))
noncomputable def f_X9_paidInAll_l4 (S : rk_Sh) (I : rk_I) (R : rk_R) (s1 : Int32) (s2 : Int32) : Option ((Int32 × Int32) ⊕ (Int32 × Int32)) :=
if (I 0 3) ≤ s2 then (
some (.inr (s1, s2))) else (
(rk_rdR R 2 24 s2).bind fun q1 =>
(rk_dr S 5 11 q1).bind fun o1 =>
some (.inl ((s1 + (I o1 8)), (s2 + 1))))
theorem b_X9_paidInAll_l4 {G : rk_G} {l : Launch} {d kc ks : Nat} {n : Nat} {S : rk_Sh} {I : rk_I} {J : rk_J} {R : rk_R} {Q : rk_Q} {s1 : Int32} {s2 : Int32} {r : (Int32 × Int32) ⊕ (Int32 × Int32)} (hL : rk_LC S R) (hf : f_X9_paidInAll_l4 S I R s1 s2 = some r) (hc : ∀ (w0 : Int32) (w1 : Int32), r = .inl (w0, w1) → AW G l yX9_paidInAll cX9_paidInAll 3 (some .int) d kc ks 4 [some (.ref 0), some (.int w0), some (.int w1)] [] n S I J R Q) (he : ∀ (w0 : Int32) (w1 : Int32), r = .inr (w0, w1) → AW G l yX9_paidInAll cX9_paidInAll 3 (some .int) d kc ks 30 [some (.ref 0), some (.int w0), some (.int w1)] [] n S I J R Q) :
    AW G l yX9_paidInAll cX9_paidInAll 3 (some .int) d kc ks 4 [some (.ref 0), some (.int s1), some (.int s2)] [] n S I J R Q := by
  unfold f_X9_paidInAll_l4 at hf
  refine AW_iload_n2 dX9_paidInAll_4 ?_
  refine AW_aload_n0 dX9_paidInAll_5 ?_
  refine AW_getI dX9_paidInAll_6 kf_X9_125 rfl (hL.1 0 (by decide)) (by decide) ?_
  refine AW_icmp_ge 30 dX9_paidInAll_9 (by decide) (fun h1 => ?_) (fun h1 => ?_)
  · replace hf := rk_it hf h1
    refine AW_sb (rk_sbs (rk_sbs (rk_sbs rk_sb0))) ?_
    exact he _ _ (Option.some.inj hf).symm
  · replace hf := rk_if hf h1
    refine AW_iload_n1 dX9_paidInAll_12 ?_
    refine AW_aload_n0 dX9_paidInAll_13 ?_
    refine AW_getR dX9_paidInAll_14 kf_X9_17 rfl (hL.1 0 (by decide)) (by decide) (hL.2 0 2 2 rfl) ?_
    refine AW_iload_n2 dX9_paidInAll_17 ?_
    replace hf := rk_bd hf
    obtain ⟨q1, e1, hf⟩ := hf
    refine AW_rdR dX9_paidInAll_18 (hL.1 2 (by decide)) (by decide) e1 ?_
    replace hf := rk_bd hf
    obtain ⟨o1, e2, hf⟩ := hf
    obtain ⟨e2, hS1⟩ := rk_dr_sp e2
    subst e2
    refine AW_getI dX9_paidInAll_19 kf_X9_142 rfl hS1 (by decide) ?_
    refine AW_iadd dX9_paidInAll_22 ?_
    refine AW_istore_n1 dX9_paidInAll_23 (by decide) rfl ?_
    refine AW_iinc_2 (v := 1) dX9_paidInAll_24 (by decide) (by decide) rfl ?_
    refine AW_goto 4 dX9_paidInAll_27 (by decide) ?_
    refine AW_sb (rk_sbs (rk_sbs (rk_sbs rk_sb0))) ?_
    exact hc _ _ (Option.some.inj hf).symm
theorem L_X9_paidInAll_w4 {G : rk_G} {l : Launch} {d kc ks : Nat} {n : Nat} {S : rk_Sh} {I : rk_I} {J : rk_J} {R : rk_R} {Q : rk_Q}  {r : Int32 × Int32} (hL : rk_LC S R) (he : ∀ (w0 : Int32) (w1 : Int32), r = (w0, w1) → AW G l yX9_paidInAll cX9_paidInAll 3 (some .int) d kc ks 30 [some (.ref 0), some (.int w0), some (.int w1)] [] n S I J R Q) :
    ∀ (m9 : Nat) (s1 : Int32) (s2 : Int32) , rk_loop (fun a9 => f_X9_paidInAll_l4 S I R a9.1 a9.2) m9 (s1, s2) = some r → AW G l yX9_paidInAll cX9_paidInAll 3 (some .int) d kc ks 4 [some (.ref 0), some (.int s1), some (.int s2)] [] n S I J R Q := by
  intro m9
  induction m9 with
  | zero => intro s1 s2 hf; cases hf
  | succ m9 ih =>
    intro s1 s2 hf 
    obtain ⟨r9, hf, hr⟩ := rk_loop_s hf
    exact b_X9_paidInAll_l4 hL hf (fun _ _ h9 => by subst h9; exact ih _ _ hr) (fun _ _ h9 => by subst h9; exact he _ _ hr.symm)
noncomputable def f_X9_paidInAll (S : rk_Sh) (I : rk_I) (R : rk_R)  : Option (Int32) :=
rk_b2 (rk_while (fun a9 => f_X9_paidInAll_l4 S I R a9.1 a9.2) (0, 0)) fun x1 x2 =>
some x1
theorem b_X9_paidInAll {G : rk_G} {l : Launch} {d kc ks : Nat} {n : Nat} {S : rk_Sh} {I : rk_I} {J : rk_J} {R : rk_R} {Q : rk_Q}  {r : Int32} (hL : rk_LC S R) (hf : f_X9_paidInAll S I R = some r) (hq : ∀ (v9 : Int32), r = v9 → Q (some (.int v9)) n S I J R) :
    AW G l yX9_paidInAll cX9_paidInAll 3 (some .int) d kc ks 0 [some (.ref 0), none, none] [] n S I J R Q := by
  unfold f_X9_paidInAll at hf
  refine AW_iconst (v := 0) dX9_paidInAll_0 (by decide) ?_
  refine AW_istore_n1 dX9_paidInAll_1 (by decide) rfl ?_
  refine AW_iconst (v := 0) dX9_paidInAll_2 (by decide) ?_
  refine AW_istore_n2 dX9_paidInAll_3 (by decide) rfl ?_
  refine AW_sb (rk_sbs (rk_sbs (rk_sbs rk_sb0))) ?_
  replace hf := rk_bd2 hf
  obtain ⟨x1, x2, e1, hf⟩ := hf
  obtain ⟨m1, e1⟩ := rk_while_sp e1
  refine L_X9_paidInAll_w4 hL ?_ m1 _ _ e1
  intro x1 x2 h9
  cases h9
  refine AW_iload_n1 dX9_paidInAll_30 ?_
  exact AW_iret dX9_paidInAll_31 rfl (hq _ (Option.some.inj hf).symm)
theorem w_X9_paidInAll {G : rk_G} {l : Launch} {d : Nat} {n : Nat} {S : rk_Sh} {I : rk_I} {J : rk_J} {R : rk_R}  {v8 : Int32} (hL : rk_LC S R) (hf : f_X9_paidInAll S I R = some v8) :
    CW G l yX9_paidInAll cX9_paidInAll 3 (some .int) d 0 0 [.ref 0] n S I J R (rk_qi v8 n S I J R True) :=
  CW.of (by decide +kernel) (Nat.le_of_ble_eq_true rfl) (rk_sbs (rk_sbe (rk_sbe rk_sb0))) (b_X9_paidInAll hL hf (fun v9 h9 => by cases h9; exact ⟨rfl, rfl, rfl, rfl, rfl, rfl, trivial⟩))
noncomputable def f_X9_count (S : rk_Sh) (I : rk_I) (R : rk_R) (a1 : Int32) : Option (Int32) :=
if a1 = 0 then (
some (I 0 1)) else
if a1 = 1 then (
some (I 0 3)) else
if a1 = 2 then (
some (I 0 5)) else
if a1 = 3 then (
some (I 4 1)) else
if a1 = 4 then (
some (I 0 6)) else
if a1 = 5 then (
(f_X9_papersHandedOn S I R).bind fun x1 =>
some x1) else
if a1 = 6 then (
(f_X9_paidInAll S I R).bind fun x2 =>
some x2) else
some (-2)
theorem b_X9_count {G : rk_G} {l : Launch} {d kc ks : Nat} {n : Nat} {S : rk_Sh} {I : rk_I} {J : rk_J} {R : rk_R} {Q : rk_Q} {a1 : Int32} {r : Int32} (hd : 1 ≤ d) (hL : rk_LC S R) (hf : f_X9_count S I R a1 = some r) (hq : ∀ (v9 : Int32), r = v9 → Q (some (.int v9)) n S I J R) :
    AW G l yX9_count cX9_count 2 (some .int) d kc ks 0 [some (.ref 0), some (.int a1)] [] n S I J R Q := by
  unfold f_X9_count at hf
  refine AW_iload_n1 dX9_count_0 ?_
  by_cases h1 : a1 = 0
  · replace hf := rk_it hf h1
    refine AW_tableIn 44 dX9_count_1 (by rw [h1]; decide) (by rw [h1]; decide) (by rw [h1]; rfl) (by decide) ?_
    refine AW_aload_n0 dX9_count_44 ?_
    refine AW_getI dX9_count_45 kf_X9_103 rfl (hL.1 0 (by decide)) (by decide) ?_
    exact AW_iret dX9_count_48 rfl (hq _ (Option.some.inj hf).symm)
  replace hf := rk_if hf h1
  by_cases h2 : a1 = 1
  · replace hf := rk_it hf h2
    refine AW_tableIn 49 dX9_count_1 (by rw [h2]; decide) (by rw [h2]; decide) (by rw [h2]; rfl) (by decide) ?_
    refine AW_aload_n0 dX9_count_49 ?_
    refine AW_getI dX9_count_50 kf_X9_125 rfl (hL.1 0 (by decide)) (by decide) ?_
    exact AW_iret dX9_count_53 rfl (hq _ (Option.some.inj hf).symm)
  replace hf := rk_if hf h2
  by_cases h3 : a1 = 2
  · replace hf := rk_it hf h3
    refine AW_tableIn 54 dX9_count_1 (by rw [h3]; decide) (by rw [h3]; decide) (by rw [h3]; rfl) (by decide) ?_
    refine AW_aload_n0 dX9_count_54 ?_
    refine AW_getI dX9_count_55 kf_X9_89 rfl (hL.1 0 (by decide)) (by decide) ?_
    exact AW_iret dX9_count_58 rfl (hq _ (Option.some.inj hf).symm)
  replace hf := rk_if hf h3
  by_cases h4 : a1 = 3
  · replace hf := rk_it hf h4
    refine AW_tableIn 59 dX9_count_1 (by rw [h4]; decide) (by rw [h4]; decide) (by rw [h4]; rfl) (by decide) ?_
    refine AW_aload_n0 dX9_count_59 ?_
    refine AW_getR dX9_count_60 kf_X9_30 rfl (hL.1 0 (by decide)) (by decide) (hL.2 0 7 4 rfl) ?_
    refine AW_getI dX9_count_63 kf_X9_192 rfl (hL.1 4 (by decide)) (by decide) ?_
    exact AW_iret dX9_count_66 rfl (hq _ (Option.some.inj hf).symm)
  replace hf := rk_if hf h4
  by_cases h5 : a1 = 4
  · replace hf := rk_it hf h5
    refine AW_tableIn 67 dX9_count_1 (by rw [h5]; decide) (by rw [h5]; decide) (by rw [h5]; rfl) (by decide) ?_
    refine AW_aload_n0 dX9_count_67 ?_
    refine AW_getI dX9_count_68 kf_X9_195 rfl (hL.1 0 (by decide)) (by decide) ?_
    exact AW_iret dX9_count_71 rfl (hq _ (Option.some.inj hf).symm)
  replace hf := rk_if hf h5
  by_cases h6 : a1 = 5
  · replace hf := rk_it hf h6
    refine AW_tableIn 72 dX9_count_1 (by rw [h6]; decide) (by rw [h6]; decide) (by rw [h6]; rfl) (by decide) ?_
    refine AW_aload_n0 dX9_count_72 ?_
    replace hf := rk_bd hf
    obtain ⟨x1, e1, hf⟩ := hf
    refine AW_iV0iz (w_X9_papersHandedOn (d := 0) hL e1) dX9_count_73 kl_X9_280 (hL.1 0 (by decide)) rfl (Nat.le_trans (by decide) hd) (by decide) (Nat.le_of_ble_eq_true rfl) (fun _ => ?_)
    exact AW_iret dX9_count_76 rfl (hq _ (Option.some.inj hf).symm)
  replace hf := rk_if hf h6
  by_cases h7 : a1 = 6
  · replace hf := rk_it hf h7
    refine AW_tableIn 77 dX9_count_1 (by rw [h7]; decide) (by rw [h7]; decide) (by rw [h7]; rfl) (by decide) ?_
    refine AW_aload_n0 dX9_count_77 ?_
    replace hf := rk_bd hf
    obtain ⟨x2, e2, hf⟩ := hf
    refine AW_iV0iz (w_X9_paidInAll (d := 0) hL e2) dX9_count_78 kl_X9_283 (hL.1 0 (by decide)) rfl (Nat.le_trans (by decide) hd) (by decide) (Nat.le_of_ble_eq_true rfl) (fun _ => ?_)
    exact AW_iret dX9_count_81 rfl (hq _ (Option.some.inj hf).symm)
  replace hf := rk_if hf h7
  refine AW_tableOut 82 dX9_count_1 (by
    have g_h1 : ¬ (a1).toInt = 0 := fun z => h1 (Int32.toInt_inj.mp z)
    have g_h2 : ¬ (a1).toInt = 1 := fun z => h2 (Int32.toInt_inj.mp z)
    have g_h3 : ¬ (a1).toInt = 2 := fun z => h3 (Int32.toInt_inj.mp z)
    have g_h4 : ¬ (a1).toInt = 3 := fun z => h4 (Int32.toInt_inj.mp z)
    have g_h5 : ¬ (a1).toInt = 4 := fun z => h5 (Int32.toInt_inj.mp z)
    have g_h6 : ¬ (a1).toInt = 5 := fun z => h6 (Int32.toInt_inj.mp z)
    have g_h7 : ¬ (a1).toInt = 6 := fun z => h7 (Int32.toInt_inj.mp z)
    omega) (by decide) ?_
  refine AW_bipush (v := (-2)) dX9_count_82 (by decide) ?_
  exact AW_iret dX9_count_84 rfl (hq _ (Option.some.inj hf).symm)
theorem w_X9_count {G : rk_G} {l : Launch} {d : Nat} {n : Nat} {S : rk_Sh} {I : rk_I} {J : rk_J} {R : rk_R} {a1 : Int32} {v8 : Int32} (hd : 1 ≤ d) (hL : rk_LC S R) (hf : f_X9_count S I R a1 = some v8) :
    CW G l yX9_count cX9_count 2 (some .int) d 0 0 [.ref 0, .int a1] n S I J R (rk_qi v8 n S I J R True) :=
  CW.of (by decide +kernel) (Nat.le_of_ble_eq_true rfl) (rk_sbs (rk_sbs rk_sb0)) (b_X9_count hd hL hf (fun v9 h9 => by cases h9; exact ⟨rfl, rfl, rfl, rfl, rfl, rfl, trivial⟩))
noncomputable def f_X10_count_l71 (I : rk_I) (s2 : Int32) (s3 : Int32) : Option ((Int32 × Int32) ⊕ (Int32 × Int32)) :=
if (I 31 20) ≤ s3 then (
some (.inr (s2, s3))) else (
(rk_rd I 45 24 s3).bind fun x1 =>
if x1 = (-1) then (
some (.inl ((s2 + 0), (s3 + 1)))) else (
some (.inl ((s2 + 1), (s3 + 1)))))
theorem b_X10_count_l71 {G : rk_G} {l : Launch} {d kc ks : Nat} {n : Nat} {S : rk_Sh} {I : rk_I} {J : rk_J} {R : rk_R} {Q : rk_Q} {s2 : Int32} {s3 : Int32} {r : (Int32 × Int32) ⊕ (Int32 × Int32)} (hM : rk_LM S R) (hf : f_X10_count_l71 I s2 s3 = some r) (hc : ∀ (w0 : Int32) (w1 : Int32), r = .inl (w0, w1) → AW G l yX10_count cX10_count 4 (some .int) d kc ks 71 [some (.ref 31), none, some (.int w0), some (.int w1)] [] n S I J R Q) (he : ∀ (w0 : Int32) (w1 : Int32), r = .inr (w0, w1) → AW G l yX10_count cX10_count 4 (some .int) d kc ks 103 [some (.ref 31), none, some (.int w0), some (.int w1)] [] n S I J R Q) :
    AW G l yX10_count cX10_count 4 (some .int) d kc ks 71 [some (.ref 31), none, some (.int s2), some (.int s3)] [] n S I J R Q := by
  unfold f_X10_count_l71 at hf
  refine AW_iload_n3 dX10_count_71 ?_
  refine AW_aload_n0 dX10_count_72 ?_
  refine AW_getI dX10_count_73 kf_X10_118 rfl (hM.1 31 (by decide) (by decide)) (by decide) ?_
  refine AW_icmp_ge 103 dX10_count_76 (by decide) (fun h1 => ?_) (fun h1 => ?_)
  · replace hf := rk_it hf h1
    refine AW_sb (rk_sbs (rk_sbn (rk_sbs (rk_sbs rk_sb0)))) ?_
    exact he _ _ (Option.some.inj hf).symm
  · replace hf := rk_if hf h1
    refine AW_iload_n2 dX10_count_79 ?_
    refine AW_aload_n0 dX10_count_80 ?_
    refine AW_getR dX10_count_81 kf_X10_53 rfl (hM.1 31 (by decide) (by decide)) (by decide) (hM.2 31 18 45 rfl) ?_
    refine AW_iload_n3 dX10_count_84 ?_
    replace hf := rk_bd hf
    obtain ⟨x1, e1, hf⟩ := hf
    refine AW_rd dX10_count_85 (hM.1 45 (by decide) (by decide)) e1 ?_
    refine AW_iconst (v := (-1)) dX10_count_86 (by decide) ?_
    refine AW_icmp_eq 94 dX10_count_87 (by decide) (fun h2 => ?_) (fun h2 => ?_)
    · replace hf := rk_it hf h2
      refine AW_iconst (v := 0) dX10_count_94 (by decide) ?_
      refine AW_iadd dX10_count_95 ?_
      refine AW_istore_n2 dX10_count_96 (by decide) rfl ?_
      refine AW_iinc_3 (v := 1) dX10_count_97 (by decide) (by decide) rfl ?_
      refine AW_goto 71 dX10_count_100 (by decide) ?_
      refine AW_sb (rk_sbs (rk_sbn (rk_sbs (rk_sbs rk_sb0)))) ?_
      exact hc _ _ (Option.some.inj hf).symm
    · replace hf := rk_if hf h2
      refine AW_iconst (v := 1) dX10_count_90 (by decide) ?_
      refine AW_goto 95 dX10_count_91 (by decide) ?_
      refine AW_iadd dX10_count_95 ?_
      refine AW_istore_n2 dX10_count_96 (by decide) rfl ?_
      refine AW_iinc_3 (v := 1) dX10_count_97 (by decide) (by decide) rfl ?_
      refine AW_goto 71 dX10_count_100 (by decide) ?_
      refine AW_sb (rk_sbs (rk_sbn (rk_sbs (rk_sbs rk_sb0)))) ?_
      exact hc _ _ (Option.some.inj hf).symm
theorem L_X10_count_w71 {G : rk_G} {l : Launch} {d kc ks : Nat} {n : Nat} {S : rk_Sh} {I : rk_I} {J : rk_J} {R : rk_R} {Q : rk_Q}  {r : Int32 × Int32} (hM : rk_LM S R) (he : ∀ (w0 : Int32) (w1 : Int32), r = (w0, w1) → AW G l yX10_count cX10_count 4 (some .int) d kc ks 103 [some (.ref 31), none, some (.int w0), some (.int w1)] [] n S I J R Q) :
    ∀ (m9 : Nat) (s2 : Int32) (s3 : Int32) , rk_loop (fun a9 => f_X10_count_l71 I a9.1 a9.2) m9 (s2, s3) = some r → AW G l yX10_count cX10_count 4 (some .int) d kc ks 71 [some (.ref 31), none, some (.int s2), some (.int s3)] [] n S I J R Q := by
  intro m9
  induction m9 with
  | zero => intro s2 s3 hf; cases hf
  | succ m9 ih =>
    intro s2 s3 hf 
    obtain ⟨r9, hf, hr⟩ := rk_loop_s hf
    exact b_X10_count_l71 hM hf (fun _ _ h9 => by subst h9; exact ih _ _ hr) (fun _ _ h9 => by subst h9; exact he _ _ hr.symm)
noncomputable def f_X10_count_l107 (I : rk_I) (s2 : Int32) (s3 : Int32) : Option ((Int32 × Int32) ⊕ (Int32 × Int32)) :=
if (I 31 20) ≤ s3 then (
some (.inr (s2, s3))) else (
(rk_rd I 46 24 s3).bind fun x1 =>
some (.inl ((s2 + x1), (s3 + 1))))
theorem b_X10_count_l107 {G : rk_G} {l : Launch} {d kc ks : Nat} {n : Nat} {S : rk_Sh} {I : rk_I} {J : rk_J} {R : rk_R} {Q : rk_Q} {s2 : Int32} {s3 : Int32} {r : (Int32 × Int32) ⊕ (Int32 × Int32)} (hM : rk_LM S R) (hf : f_X10_count_l107 I s2 s3 = some r) (hc : ∀ (w0 : Int32) (w1 : Int32), r = .inl (w0, w1) → AW G l yX10_count cX10_count 4 (some .int) d kc ks 107 [some (.ref 31), none, some (.int w0), some (.int w1)] [] n S I J R Q) (he : ∀ (w0 : Int32) (w1 : Int32), r = .inr (w0, w1) → AW G l yX10_count cX10_count 4 (some .int) d kc ks 130 [some (.ref 31), none, some (.int w0), some (.int w1)] [] n S I J R Q) :
    AW G l yX10_count cX10_count 4 (some .int) d kc ks 107 [some (.ref 31), none, some (.int s2), some (.int s3)] [] n S I J R Q := by
  unfold f_X10_count_l107 at hf
  refine AW_iload_n3 dX10_count_107 ?_
  refine AW_aload_n0 dX10_count_108 ?_
  refine AW_getI dX10_count_109 kf_X10_118 rfl (hM.1 31 (by decide) (by decide)) (by decide) ?_
  refine AW_icmp_ge 130 dX10_count_112 (by decide) (fun h1 => ?_) (fun h1 => ?_)
  · replace hf := rk_it hf h1
    refine AW_sb (rk_sbs (rk_sbn (rk_sbs (rk_sbs rk_sb0)))) ?_
    exact he _ _ (Option.some.inj hf).symm
  · replace hf := rk_if hf h1
    refine AW_iload_n2 dX10_count_115 ?_
    refine AW_aload_n0 dX10_count_116 ?_
    refine AW_getR dX10_count_117 kf_X10_56 rfl (hM.1 31 (by decide) (by decide)) (by decide) (hM.2 31 19 46 rfl) ?_
    refine AW_iload_n3 dX10_count_120 ?_
    replace hf := rk_bd hf
    obtain ⟨x1, e1, hf⟩ := hf
    refine AW_rd dX10_count_121 (hM.1 46 (by decide) (by decide)) e1 ?_
    refine AW_iadd dX10_count_122 ?_
    refine AW_istore_n2 dX10_count_123 (by decide) rfl ?_
    refine AW_iinc_3 (v := 1) dX10_count_124 (by decide) (by decide) rfl ?_
    refine AW_goto 107 dX10_count_127 (by decide) ?_
    refine AW_sb (rk_sbs (rk_sbn (rk_sbs (rk_sbs rk_sb0)))) ?_
    exact hc _ _ (Option.some.inj hf).symm
theorem L_X10_count_w107 {G : rk_G} {l : Launch} {d kc ks : Nat} {n : Nat} {S : rk_Sh} {I : rk_I} {J : rk_J} {R : rk_R} {Q : rk_Q}  {r : Int32 × Int32} (hM : rk_LM S R) (he : ∀ (w0 : Int32) (w1 : Int32), r = (w0, w1) → AW G l yX10_count cX10_count 4 (some .int) d kc ks 130 [some (.ref 31), none, some (.int w0), some (.int w1)] [] n S I J R Q) :
    ∀ (m9 : Nat) (s2 : Int32) (s3 : Int32) , rk_loop (fun a9 => f_X10_count_l107 I a9.1 a9.2) m9 (s2, s3) = some r → AW G l yX10_count cX10_count 4 (some .int) d kc ks 107 [some (.ref 31), none, some (.int s2), some (.int s3)] [] n S I J R Q := by
  intro m9
  induction m9 with
  | zero => intro s2 s3 hf; cases hf
  | succ m9 ih =>
    intro s2 s3 hf 
    obtain ⟨r9, hf, hr⟩ := rk_loop_s hf
    exact b_X10_count_l107 hM hf (fun _ _ h9 => by subst h9; exact ih _ _ hr) (fun _ _ h9 => by subst h9; exact he _ _ hr.symm)
noncomputable def f_X10_count (I : rk_I) (a1 : Int32) : Option (Int32) :=
if a1 = 0 then (
some (I 31 10)) else
if a1 = 1 then (
some (I 31 20)) else
if a1 = 2 then (
some (I 31 3)) else
if a1 = 3 then (
some (I 31 6)) else
if a1 = 4 then (
some (I 31 4)) else
if a1 = 5 then (
rk_b2 (rk_while (fun a9 => f_X10_count_l71 I a9.1 a9.2) (0, 0)) fun x1 x2 =>
some x1) else
if a1 = 6 then (
rk_b2 (rk_while (fun a9 => f_X10_count_l107 I a9.1 a9.2) (0, 0)) fun x3 x4 =>
some x3) else
some (-2)
theorem b_X10_count {G : rk_G} {l : Launch} {d kc ks : Nat} {n : Nat} {S : rk_Sh} {I : rk_I} {J : rk_J} {R : rk_R} {Q : rk_Q} {a1 : Int32} {r : Int32} (hM : rk_LM S R) (hf : f_X10_count I a1 = some r) (hq : ∀ (v9 : Int32), r = v9 → Q (some (.int v9)) n S I J R) :
    AW G l yX10_count cX10_count 4 (some .int) d kc ks 0 [some (.ref 31), some (.int a1), none, none] [] n S I J R Q := by
  unfold f_X10_count at hf
  refine AW_iconst (v := 0) dX10_count_0 (by decide) ?_
  refine AW_istore_n2 dX10_count_1 (by decide) rfl ?_
  refine AW_iload_n1 dX10_count_2 ?_
  by_cases h1 : a1 = 0
  · replace hf := rk_it hf h1
    refine AW_tableIn 44 dX10_count_3 (by rw [h1]; decide) (by rw [h1]; decide) (by rw [h1]; rfl) (by decide) ?_
    refine AW_aload_n0 dX10_count_44 ?_
    refine AW_getI dX10_count_45 kf_X10_111 rfl (hM.1 31 (by decide) (by decide)) (by decide) ?_
    exact AW_iret dX10_count_48 rfl (hq _ (Option.some.inj hf).symm)
  replace hf := rk_if hf h1
  by_cases h2 : a1 = 1
  · replace hf := rk_it hf h2
    refine AW_tableIn 49 dX10_count_3 (by rw [h2]; decide) (by rw [h2]; decide) (by rw [h2]; rfl) (by decide) ?_
    refine AW_aload_n0 dX10_count_49 ?_
    refine AW_getI dX10_count_50 kf_X10_118 rfl (hM.1 31 (by decide) (by decide)) (by decide) ?_
    exact AW_iret dX10_count_53 rfl (hq _ (Option.some.inj hf).symm)
  replace hf := rk_if hf h2
  by_cases h3 : a1 = 2
  · replace hf := rk_it hf h3
    refine AW_tableIn 54 dX10_count_3 (by rw [h3]; decide) (by rw [h3]; decide) (by rw [h3]; rfl) (by decide) ?_
    refine AW_aload_n0 dX10_count_54 ?_
    refine AW_getI dX10_count_55 kf_X10_106 rfl (hM.1 31 (by decide) (by decide)) (by decide) ?_
    exact AW_iret dX10_count_58 rfl (hq _ (Option.some.inj hf).symm)
  replace hf := rk_if hf h3
  by_cases h4 : a1 = 3
  · replace hf := rk_it hf h4
    refine AW_tableIn 59 dX10_count_3 (by rw [h4]; decide) (by rw [h4]; decide) (by rw [h4]; rfl) (by decide) ?_
    refine AW_aload_n0 dX10_count_59 ?_
    refine AW_getI dX10_count_60 kf_X10_176 rfl (hM.1 31 (by decide) (by decide)) (by decide) ?_
    exact AW_iret dX10_count_63 rfl (hq _ (Option.some.inj hf).symm)
  replace hf := rk_if hf h4
  by_cases h5 : a1 = 4
  · replace hf := rk_it hf h5
    refine AW_tableIn 64 dX10_count_3 (by rw [h5]; decide) (by rw [h5]; decide) (by rw [h5]; rfl) (by decide) ?_
    refine AW_aload_n0 dX10_count_64 ?_
    refine AW_getI dX10_count_65 kf_X10_309 rfl (hM.1 31 (by decide) (by decide)) (by decide) ?_
    exact AW_iret dX10_count_68 rfl (hq _ (Option.some.inj hf).symm)
  replace hf := rk_if hf h5
  by_cases h6 : a1 = 5
  · replace hf := rk_it hf h6
    refine AW_tableIn 69 dX10_count_3 (by rw [h6]; decide) (by rw [h6]; decide) (by rw [h6]; rfl) (by decide) ?_
    refine AW_iconst (v := 0) dX10_count_69 (by decide) ?_
    refine AW_istore_n3 dX10_count_70 (by decide) rfl ?_
    refine AW_sb (rk_sbs (rk_sbn (rk_sbs (rk_sbs rk_sb0)))) ?_
    replace hf := rk_bd2 hf
    obtain ⟨x1, x2, e1, hf⟩ := hf
    obtain ⟨m1, e1⟩ := rk_while_sp e1
    refine L_X10_count_w71 hM ?_ m1 _ _ e1
    intro x1 x2 h9
    cases h9
    refine AW_iload_n2 dX10_count_103 ?_
    exact AW_iret dX10_count_104 rfl (hq _ (Option.some.inj hf).symm)
  replace hf := rk_if hf h6
  by_cases h7 : a1 = 6
  · replace hf := rk_it hf h7
    refine AW_tableIn 105 dX10_count_3 (by rw [h7]; decide) (by rw [h7]; decide) (by rw [h7]; rfl) (by decide) ?_
    refine AW_iconst (v := 0) dX10_count_105 (by decide) ?_
    refine AW_istore_n3 dX10_count_106 (by decide) rfl ?_
    refine AW_sb (rk_sbs (rk_sbn (rk_sbs (rk_sbs rk_sb0)))) ?_
    replace hf := rk_bd2 hf
    obtain ⟨x3, x4, e2, hf⟩ := hf
    obtain ⟨m2, e2⟩ := rk_while_sp e2
    refine L_X10_count_w107 hM ?_ m2 _ _ e2
    intro x3 x4 h9
    cases h9
    refine AW_iload_n2 dX10_count_130 ?_
    exact AW_iret dX10_count_131 rfl (hq _ (Option.some.inj hf).symm)
  replace hf := rk_if hf h7
  refine AW_tableOut 132 dX10_count_3 (by
    have g_h1 : ¬ (a1).toInt = 0 := fun z => h1 (Int32.toInt_inj.mp z)
    have g_h2 : ¬ (a1).toInt = 1 := fun z => h2 (Int32.toInt_inj.mp z)
    have g_h3 : ¬ (a1).toInt = 2 := fun z => h3 (Int32.toInt_inj.mp z)
    have g_h4 : ¬ (a1).toInt = 3 := fun z => h4 (Int32.toInt_inj.mp z)
    have g_h5 : ¬ (a1).toInt = 4 := fun z => h5 (Int32.toInt_inj.mp z)
    have g_h6 : ¬ (a1).toInt = 5 := fun z => h6 (Int32.toInt_inj.mp z)
    have g_h7 : ¬ (a1).toInt = 6 := fun z => h7 (Int32.toInt_inj.mp z)
    omega) (by decide) ?_
  refine AW_bipush (v := (-2)) dX10_count_132 (by decide) ?_
  exact AW_iret dX10_count_134 rfl (hq _ (Option.some.inj hf).symm)
theorem w_X10_count {G : rk_G} {l : Launch} {d : Nat} {n : Nat} {S : rk_Sh} {I : rk_I} {J : rk_J} {R : rk_R} {a1 : Int32} {v8 : Int32} (hM : rk_LM S R) (hf : f_X10_count I a1 = some v8) :
    CW G l yX10_count cX10_count 4 (some .int) d 0 0 [.ref 31, .int a1] n S I J R (rk_qi v8 n S I J R True) :=
  CW.of (by decide +kernel) (Nat.le_of_ble_eq_true rfl) (rk_sbs (rk_sbs (rk_sbe (rk_sbe rk_sb0)))) (b_X10_count hM hf (fun v9 h9 => by cases h9; exact ⟨rfl, rfl, rfl, rfl, rfl, rfl, trivial⟩))
noncomputable def f_X9_sheetAt (R : rk_R) (a1 : Int32) : Option (Option Nat) :=
if a1 < 0 then (
some none) else (
if 4 ≤ a1 then (
some none) else (
(rk_rdR R 18 4 a1).bind fun q1 =>
some q1))
theorem b_X9_sheetAt {G : rk_G} {l : Launch} {d kc ks : Nat} {n : Nat} {S : rk_Sh} {I : rk_I} {J : rk_J} {R : rk_R} {Q : rk_Q} {a1 : Int32} {r : Option Nat} (hL : rk_LC S R) (hf : f_X9_sheetAt R a1 = some r) (hq : ∀ (v9 : Option Nat), r = v9 → Q (some (rk_o v9)) n S I J R) :
    AW G l yX9_sheetAt cX9_sheetAt 2 (some (.object "RailCargo$Sheet")) d kc ks 0 [some (.ref 0), some (.int a1)] [] n S I J R Q := by
  unfold f_X9_sheetAt at hf
  refine AW_iload_n1 dX9_sheetAt_0 ?_
  refine AW_if_lt 18 dX9_sheetAt_1 (by decide) (fun h1 => ?_) (fun h1 => ?_)
  · replace hf := rk_it hf h1
    refine AW_null dX9_sheetAt_18 ?_
    exact AW_aretO (q := none) dX9_sheetAt_19 rfl (hq _ (Option.some.inj hf).symm)
  · replace hf := rk_if hf h1
    refine AW_iload_n1 dX9_sheetAt_4 ?_
    refine AW_iconst (v := 4) dX9_sheetAt_5 (by decide) ?_
    refine AW_icmp_ge 18 dX9_sheetAt_6 (by decide) (fun h2 => ?_) (fun h2 => ?_)
    · replace hf := rk_it hf h2
      refine AW_null dX9_sheetAt_18 ?_
      exact AW_aretO (q := none) dX9_sheetAt_19 rfl (hq _ (Option.some.inj hf).symm)
    · replace hf := rk_if hf h2
      refine AW_aload_n0 dX9_sheetAt_9 ?_
      refine AW_getR dX9_sheetAt_10 kf_X9_57 rfl (hL.1 0 (by decide)) (by decide) (hL.2 0 11 18 rfl) ?_
      refine AW_iload_n1 dX9_sheetAt_13 ?_
      replace hf := rk_bd hf
      obtain ⟨q1, e1, hf⟩ := hf
      refine AW_rdR dX9_sheetAt_14 (hL.1 18 (by decide)) (by decide) e1 ?_
      refine AW_goto 19 dX9_sheetAt_15 (by decide) ?_
      exact AW_aretO (q := q1) dX9_sheetAt_19 rfl (hq _ (Option.some.inj hf).symm)
theorem w_X9_sheetAt {G : rk_G} {l : Launch} {d : Nat} {n : Nat} {S : rk_Sh} {I : rk_I} {J : rk_J} {R : rk_R} {a1 : Int32} {v8 : Option Nat} (hL : rk_LC S R) (hf : f_X9_sheetAt R a1 = some v8) :
    CW G l yX9_sheetAt cX9_sheetAt 2 (some (.object "RailCargo$Sheet")) d 0 0 [.ref 0, .int a1] n S I J R (rk_qo v8 n S I J R True) :=
  CW.of (by decide +kernel) (Nat.le_of_ble_eq_true rfl) (rk_sbs (rk_sbs rk_sb0)) (b_X9_sheetAt hL hf (fun v9 h9 => by cases h9; exact ⟨rfl, rfl, rfl, rfl, rfl, rfl, trivial⟩))
noncomputable def f_J7_fill_53178_l5 (S : rk_Sh) (I : rk_I) (u0 : Nat) (u1 : Int32) (s2 : Int32) (u3 : Int32) : Option ((Int32 × rk_I) ⊕ (Int32 × rk_I)) :=
if u3 ≤ s2 then (
some (.inr (s2, I))) else (
(rk_wrD S I u0 s2 u1).bind fun I1 =>
some (.inl ((s2 + 1), I1)))
theorem b_J7_fill_53178_l5 {G : rk_G} {l : Launch} {d kc ks : Nat} {n : Nat} {S : rk_Sh} {I : rk_I} {J : rk_J} {R : rk_R} {Q : rk_Q} {u0 : Nat} {u1 : Int32} {s2 : Int32} {u3 : Int32} {r : (Int32 × rk_I) ⊕ (Int32 × rk_I)} (hf : f_J7_fill_53178_l5 S I u0 u1 s2 u3 = some r) (hc : ∀ (w0 : Int32) (I9 : rk_I), r = .inl (w0, I9) → AW G l yJ7_fill_53178 cJ7_fill_53178 4 none d kc ks 5 [some (.ref u0), some (.int u1), some (.int w0), some (.int u3)] [] n S I9 J R Q) (he : ∀ (w0 : Int32) (I9 : rk_I), r = .inr (w0, I9) → AW G l yJ7_fill_53178 cJ7_fill_53178 4 none d kc ks 20 [some (.ref u0), some (.int u1), some (.int w0), some (.int u3)] [] n S I9 J R Q) :
    AW G l yJ7_fill_53178 cJ7_fill_53178 4 none d kc ks 5 [some (.ref u0), some (.int u1), some (.int s2), some (.int u3)] [] n S I J R Q := by
  unfold f_J7_fill_53178_l5 at hf
  refine AW_iload_n2 dJ7_fill_53178_5 ?_
  refine AW_iload_n3 dJ7_fill_53178_6 ?_
  refine AW_icmp_ge 20 dJ7_fill_53178_7 (by decide) (fun h1 => ?_) (fun h1 => ?_)
  · replace hf := rk_it hf h1
    refine AW_sb (rk_sbs (rk_sbs (rk_sbs (rk_sbs rk_sb0)))) ?_
    exact he _ _ (Option.some.inj hf).symm
  · replace hf := rk_if hf h1
    refine AW_aload_n0 dJ7_fill_53178_10 ?_
    refine AW_iload_n2 dJ7_fill_53178_11 ?_
    refine AW_iload_n1 dJ7_fill_53178_12 ?_
    replace hf := rk_bd hf
    obtain ⟨I1, e1, hf⟩ := hf
    refine AW_wrD dJ7_fill_53178_13 e1 ?_
    refine AW_iinc_2 (v := 1) dJ7_fill_53178_14 (by decide) (by decide) rfl ?_
    refine AW_goto 5 dJ7_fill_53178_17 (by decide) ?_
    refine AW_sb (rk_sbs (rk_sbs (rk_sbs (rk_sbs rk_sb0)))) ?_
    exact hc _ _ (Option.some.inj hf).symm
theorem L_J7_fill_53178_w5 {G : rk_G} {l : Launch} {d kc ks : Nat} {n : Nat} {S : rk_Sh} {J : rk_J} {R : rk_R} {Q : rk_Q} {u0 : Nat} {u1 : Int32} {u3 : Int32} {r : Int32 × rk_I} (he : ∀ (w0 : Int32) (I9 : rk_I), r = (w0, I9) → AW G l yJ7_fill_53178 cJ7_fill_53178 4 none d kc ks 20 [some (.ref u0), some (.int u1), some (.int w0), some (.int u3)] [] n S I9 J R Q) :
    ∀ (m9 : Nat) (s2 : Int32) (I : rk_I), rk_loop (fun a9 => f_J7_fill_53178_l5 S a9.2 u0 u1 a9.1 u3) m9 (s2, I) = some r → AW G l yJ7_fill_53178 cJ7_fill_53178 4 none d kc ks 5 [some (.ref u0), some (.int u1), some (.int s2), some (.int u3)] [] n S I J R Q := by
  intro m9
  induction m9 with
  | zero => intro s2 I hf; cases hf
  | succ m9 ih =>
    intro s2 I hf 
    obtain ⟨r9, hf, hr⟩ := rk_loop_s hf
    exact b_J7_fill_53178_l5  hf (fun _ _ h9 => by subst h9; exact ih _ _ hr) (fun _ _ h9 => by subst h9; exact he _ _ hr.symm)
noncomputable def f_J7_fill_53178 (S : rk_Sh) (I : rk_I) (a0 : Nat) (a1 : Int32) : Option (rk_I) :=
(rk_al S a0).bind fun N1 =>
rk_b2 (rk_while (fun a9 => f_J7_fill_53178_l5 S a9.2 a0 a1 a9.1 (Int32.ofNat N1)) (0, I)) fun x1 I1 =>
some I1
theorem b_J7_fill_53178 {G : rk_G} {l : Launch} {d kc ks : Nat} {n : Nat} {S : rk_Sh} {I : rk_I} {J : rk_J} {R : rk_R} {Q : rk_Q} {a0 : Nat} {a1 : Int32} {r : rk_I} (hf : f_J7_fill_53178 S I a0 a1 = some r) (hq : ∀ (I9 : rk_I), r = I9 → Q (none) n S I9 J R) :
    AW G l yJ7_fill_53178 cJ7_fill_53178 4 none d kc ks 0 [some (.ref a0), some (.int a1), none, none] [] n S I J R Q := by
  unfold f_J7_fill_53178 at hf
  refine AW_iconst (v := 0) dJ7_fill_53178_0 (by decide) ?_
  refine AW_istore_n2 dJ7_fill_53178_1 (by decide) rfl ?_
  refine AW_aload_n0 dJ7_fill_53178_2 ?_
  replace hf := rk_bd hf
  obtain ⟨N1, e1, hf⟩ := hf
  refine AW_alenD dJ7_fill_53178_3 e1 ?_
  refine AW_istore_n3 dJ7_fill_53178_4 (by decide) rfl ?_
  refine AW_sb (rk_sbs (rk_sbs (rk_sbs (rk_sbs rk_sb0)))) ?_
  replace hf := rk_bd2 hf
  obtain ⟨x1, I1, e2, hf⟩ := hf
  obtain ⟨m1, e2⟩ := rk_while_sp e2
  refine L_J7_fill_53178_w5  ?_ m1 _ _ e2
  intro x1 I1 h9
  cases h9
  exact AW_vret dJ7_fill_53178_20 rfl (hq _ (Option.some.inj hf).symm)
theorem w_J7_fill_53178 {G : rk_G} {l : Launch} {d : Nat} {n : Nat} {S : rk_Sh} {I : rk_I} {J : rk_J} {R : rk_R} {a0 : Nat} {a1 : Int32} {I8 : rk_I} (hf : f_J7_fill_53178 S I a0 a1 = some I8) :
    CW G l yJ7_fill_53178 cJ7_fill_53178 4 none d 0 0 [.ref a0, .int a1] n S I J R (rk_qv n S I8 J R True) :=
  CW.of (by decide +kernel) (Nat.le_of_ble_eq_true rfl) (rk_sbs (rk_sbs (rk_sbe (rk_sbe rk_sb0)))) (b_J7_fill_53178 hf (fun I9 h9 => by cases h9; exact ⟨rfl, rfl, rfl, rfl, rfl, rfl, trivial⟩))
noncomputable def f_X6_become (S : rk_Sh) (I : rk_I) (R : rk_R) (a0 : Nat) (a1 : Int32) (a2 : Int32) : Option (rk_I) :=
(some (rk_ui I a0 1 a1)).bind fun I1 =>
(some (rk_ui I1 a0 2 a2)).bind fun I2 =>
(some (R a0 0)).bind fun q1 =>
(q1).bind fun o1 =>
(f_J7_fill_53178 S I2 o1 0).bind fun I3 =>
some I3
theorem b_X6_become {G : rk_G} {l : Launch} {d kc ks : Nat} {n : Nat} {S : rk_Sh} {I : rk_I} {J : rk_J} {R : rk_R} {Q : rk_Q} {a0 : Nat} {a1 : Int32} {a2 : Int32} {r : rk_I} (hd : 1 ≤ d) (hS_a0 : S a0 = (6, 3)) (hf : f_X6_become S I R a0 a1 a2 = some r) (hq : ∀ (I9 : rk_I), r = I9 → Q (none) n S I9 J R) :
    AW G l yX6_become cX6_become 3 none d kc ks 0 [some (.ref a0), some (.int a1), some (.int a2)] [] n S I J R Q := by
  unfold f_X6_become at hf
  refine AW_aload_n0 dX6_become_0 ?_
  refine AW_iload_n1 dX6_become_1 ?_
  replace hf := rk_bd hf
  obtain ⟨I1, e1, hf⟩ := hf
  refine AW_puI dX6_become_2 kf_X6_15 rfl hS_a0 (by decide) e1 ?_
  refine AW_aload_n0 dX6_become_5 ?_
  refine AW_iload_n2 dX6_become_6 ?_
  replace hf := rk_bd hf
  obtain ⟨I2, e2, hf⟩ := hf
  refine AW_puI dX6_become_7 kf_X6_19 rfl hS_a0 (by decide) e2 ?_
  refine AW_aload_n0 dX6_become_10 ?_
  replace hf := rk_bd hf
  obtain ⟨q1, e3, hf⟩ := hf
  refine AW_getQ dX6_become_11 kf_X6_9 rfl hS_a0 (by decide) e3 ?_
  refine AW_iconst (v := 0) dX6_become_14 (by decide) ?_
  replace hf := rk_bd hf
  obtain ⟨o1, e4, hf⟩ := hf
  subst e4
  replace hf := rk_bd hf
  obtain ⟨I3, e5, hf⟩ := hf
  refine AW_iS2vz (w_J7_fill_53178 (d := 0) e5) dX6_become_15 kl_X6_22 (Nat.le_trans (by decide) hd) (by decide) (Nat.le_of_ble_eq_true rfl) (fun _ => ?_)
  exact AW_vret dX6_become_18 rfl (hq _ (Option.some.inj hf).symm)
theorem w_X6_become {G : rk_G} {l : Launch} {d : Nat} {n : Nat} {S : rk_Sh} {I : rk_I} {J : rk_J} {R : rk_R} {a0 : Nat} {a1 : Int32} {a2 : Int32} {I8 : rk_I} (hd : 1 ≤ d) (hS_a0 : S a0 = (6, 3)) (hf : f_X6_become S I R a0 a1 a2 = some I8) :
    CW G l yX6_become cX6_become 3 none d 0 0 [.ref a0, .int a1, .int a2] n S I J R (rk_qv n S I8 J R True) :=
  CW.of (by decide +kernel) (Nat.le_of_ble_eq_true rfl) (rk_sbs (rk_sbs (rk_sbs rk_sb0))) (b_X6_become hd hS_a0 hf (fun I9 h9 => by cases h9; exact ⟨rfl, rfl, rfl, rfl, rfl, rfl, trivial⟩))
noncomputable def f_X9_sheet_j36 (S : rk_Sh) (I : rk_I) (R : rk_R) (j2 : Int32) (j3 : Int32) (j4 : Nat) : Option (Int32 × rk_I) :=
if j2 = (-1) then (
if j2 = (-1) then (
(rk_ck S j4 6 3).bind fun _ =>
(f_X6_become S I R j4 j2 0).bind fun I2 =>
some (1, I2)) else (
(rk_ck S j4 6 3).bind fun _ =>
(f_X6_become S I R j4 j2 j3).bind fun I1 =>
some (1, I1))) else (
if 0 ≤ j3 then (
if j2 = (-1) then (
(rk_ck S j4 6 3).bind fun _ =>
(f_X6_become S I R j4 j2 0).bind fun I4 =>
some (1, I4)) else (
(rk_ck S j4 6 3).bind fun _ =>
(f_X6_become S I R j4 j2 j3).bind fun I3 =>
some (1, I3))) else (
some ((-14), I)))
theorem b_X9_sheet_j36 {G : rk_G} {l : Launch} {d kc ks : Nat} {n : Nat} {S : rk_Sh} {I : rk_I} {J : rk_J} {R : rk_R} {Q : rk_Q} {j2 : Int32} {j3 : Int32} {j4 : Nat} {r : Int32 × rk_I} (hd : 2 ≤ d) (hL : rk_LC S R) (hf : f_X9_sheet_j36 S I R j2 j3 j4 = some r) (hq : ∀ (v9 : Int32) (I9 : rk_I), r = (v9, I9) → Q (some (.int v9)) n S I9 J R) :
    AW G l yX9_sheet cX9_sheet 5 (some .int) d kc ks 36 [none, none, some (.int j2), some (.int j3), some (.ref j4)] [] n S I J R Q := by
  unfold f_X9_sheet_j36 at hf
  refine AW_iload_n2 dX9_sheet_36 ?_
  refine AW_iconst (v := (-1)) dX9_sheet_37 (by decide) ?_
  refine AW_icmp_eq 48 dX9_sheet_38 (by decide) (fun h1 => ?_) (fun h1 => ?_)
  · replace hf := rk_it hf h1
    refine AW_aload_4 dX9_sheet_48 ?_
    refine AW_iload_n2 dX9_sheet_50 ?_
    refine AW_iload_n2 dX9_sheet_51 ?_
    refine AW_iconst (v := (-1)) dX9_sheet_52 (by decide) ?_
    refine AW_icmp_ne 60 dX9_sheet_53 (by decide) (fun h2 => ?_) (fun h2 => ?_)
    · replace hf := rk_if hf h2
      refine AW_iload_n3 dX9_sheet_60 ?_
      replace hf := rk_bd hf
      obtain ⟨_, e1, hf⟩ := hf
      have e1 := rk_ck_sp e1
      replace hf := rk_bd hf
      obtain ⟨I1, e2, hf⟩ := hf
      refine AW_iV2vz (w_X6_become (d := 1) (Nat.le_refl _) e1 e2) dX9_sheet_61 kl_X9_290 e1 rfl (Nat.le_trans (by decide) hd) (by decide) (Nat.le_of_ble_eq_true rfl) (fun _ => ?_)
      refine AW_iconst (v := 1) dX9_sheet_64 (by decide) ?_
      exact AW_iret dX9_sheet_65 rfl (hq _ _ (Option.some.inj hf).symm)
    · replace hf := rk_it hf h2
      refine AW_iconst (v := 0) dX9_sheet_56 (by decide) ?_
      refine AW_goto 61 dX9_sheet_57 (by decide) ?_
      replace hf := rk_bd hf
      obtain ⟨_, e3, hf⟩ := hf
      have e3 := rk_ck_sp e3
      replace hf := rk_bd hf
      obtain ⟨I2, e4, hf⟩ := hf
      refine AW_iV2vz (w_X6_become (d := 1) (Nat.le_refl _) e3 e4) dX9_sheet_61 kl_X9_290 e3 rfl (Nat.le_trans (by decide) hd) (by decide) (Nat.le_of_ble_eq_true rfl) (fun _ => ?_)
      refine AW_iconst (v := 1) dX9_sheet_64 (by decide) ?_
      exact AW_iret dX9_sheet_65 rfl (hq _ _ (Option.some.inj hf).symm)
  · replace hf := rk_if hf h1
    refine AW_iload_n3 dX9_sheet_41 ?_
    refine AW_if_ge 48 dX9_sheet_42 (by decide) (fun h3 => ?_) (fun h3 => ?_)
    · replace hf := rk_it hf h3
      refine AW_aload_4 dX9_sheet_48 ?_
      refine AW_iload_n2 dX9_sheet_50 ?_
      refine AW_iload_n2 dX9_sheet_51 ?_
      refine AW_iconst (v := (-1)) dX9_sheet_52 (by decide) ?_
      refine AW_icmp_ne 60 dX9_sheet_53 (by decide) (fun h4 => ?_) (fun h4 => ?_)
      · replace hf := rk_if hf h4
        refine AW_iload_n3 dX9_sheet_60 ?_
        replace hf := rk_bd hf
        obtain ⟨_, e5, hf⟩ := hf
        have e5 := rk_ck_sp e5
        replace hf := rk_bd hf
        obtain ⟨I3, e6, hf⟩ := hf
        refine AW_iV2vz (w_X6_become (d := 1) (Nat.le_refl _) e5 e6) dX9_sheet_61 kl_X9_290 e5 rfl (Nat.le_trans (by decide) hd) (by decide) (Nat.le_of_ble_eq_true rfl) (fun _ => ?_)
        refine AW_iconst (v := 1) dX9_sheet_64 (by decide) ?_
        exact AW_iret dX9_sheet_65 rfl (hq _ _ (Option.some.inj hf).symm)
      · replace hf := rk_it hf h4
        refine AW_iconst (v := 0) dX9_sheet_56 (by decide) ?_
        refine AW_goto 61 dX9_sheet_57 (by decide) ?_
        replace hf := rk_bd hf
        obtain ⟨_, e7, hf⟩ := hf
        have e7 := rk_ck_sp e7
        replace hf := rk_bd hf
        obtain ⟨I4, e8, hf⟩ := hf
        refine AW_iV2vz (w_X6_become (d := 1) (Nat.le_refl _) e7 e8) dX9_sheet_61 kl_X9_290 e7 rfl (Nat.le_trans (by decide) hd) (by decide) (Nat.le_of_ble_eq_true rfl) (fun _ => ?_)
        refine AW_iconst (v := 1) dX9_sheet_64 (by decide) ?_
        exact AW_iret dX9_sheet_65 rfl (hq _ _ (Option.some.inj hf).symm)
    · replace hf := rk_if hf h3
      refine AW_bipush (v := (-14)) dX9_sheet_45 (by decide) ?_
      exact AW_iret dX9_sheet_47 rfl (hq _ _ (Option.some.inj hf).symm)
noncomputable def f_X9_sheet (S : rk_Sh) (I : rk_I) (R : rk_R) (a1 : Int32) (a2 : Int32) (a3 : Int32) : Option (Int32 × rk_I) :=
(f_X9_sheetAt R a1).bind fun q1 =>
rk_oc q1 (
some ((-2), I)) (fun o1 => (
if a2 < (-1) then (
some ((-2), I)) else (
if 3 ≤ a2 then (
some ((-2), I)) else (
if a2 = (-1) then (
f_X9_sheet_j36 S I R a2 a3 o1) else (
if a3 ≤ 40 then (
f_X9_sheet_j36 S I R a2 a3 o1) else (
some ((-2), I)))))))
theorem b_X9_sheet {G : rk_G} {l : Launch} {d kc ks : Nat} {n : Nat} {S : rk_Sh} {I : rk_I} {J : rk_J} {R : rk_R} {Q : rk_Q} {a1 : Int32} {a2 : Int32} {a3 : Int32} {r : Int32 × rk_I} (hd : 2 ≤ d) (hL : rk_LC S R) (hf : f_X9_sheet S I R a1 a2 a3 = some r) (hq : ∀ (v9 : Int32) (I9 : rk_I), r = (v9, I9) → Q (some (.int v9)) n S I9 J R) :
    AW G l yX9_sheet cX9_sheet 5 (some .int) d kc ks 0 [some (.ref 0), some (.int a1), some (.int a2), some (.int a3), none] [] n S I J R Q := by
  unfold f_X9_sheet at hf
  refine AW_aload_n0 dX9_sheet_0 ?_
  refine AW_iload_n1 dX9_sheet_1 ?_
  replace hf := rk_bd hf
  obtain ⟨q1, e1, hf⟩ := hf
  refine AW_iV1oz (w_X9_sheetAt (d := 0) hL e1) dX9_sheet_2 kl_X9_286 (hL.1 0 (by decide)) rfl (Nat.le_trans (by decide) hd) (by decide) (Nat.le_of_ble_eq_true rfl) (fun _ => ?_)
  refine AW_astoreO_4 dX9_sheet_5 (by decide) rfl ?_
  refine AW_aloadO_4 dX9_sheet_7 ?_
  rcases q1 with _ | o1
  · replace hf := rk_oc_n hf
    refine AW_ifnullN 33 dX9_sheet_9 (by decide) ?_
    refine AW_bipush (v := (-2)) dX9_sheet_33 (by decide) ?_
    exact AW_iret dX9_sheet_35 rfl (hq _ _ (Option.some.inj hf).symm)
  · replace hf := rk_oc_s hf
    refine AW_ifnull dX9_sheet_9 ?_
    refine AW_iload_n2 dX9_sheet_12 ?_
    refine AW_iconst (v := (-1)) dX9_sheet_13 (by decide) ?_
    refine AW_icmp_lt 33 dX9_sheet_14 (by decide) (fun h1 => ?_) (fun h1 => ?_)
    · replace hf := rk_it hf h1
      refine AW_bipush (v := (-2)) dX9_sheet_33 (by decide) ?_
      exact AW_iret dX9_sheet_35 rfl (hq _ _ (Option.some.inj hf).symm)
    · replace hf := rk_if hf h1
      refine AW_iload_n2 dX9_sheet_17 ?_
      refine AW_iconst (v := 3) dX9_sheet_18 (by decide) ?_
      refine AW_icmp_ge 33 dX9_sheet_19 (by decide) (fun h2 => ?_) (fun h2 => ?_)
      · replace hf := rk_it hf h2
        refine AW_bipush (v := (-2)) dX9_sheet_33 (by decide) ?_
        exact AW_iret dX9_sheet_35 rfl (hq _ _ (Option.some.inj hf).symm)
      · replace hf := rk_if hf h2
        refine AW_iload_n2 dX9_sheet_22 ?_
        refine AW_iconst (v := (-1)) dX9_sheet_23 (by decide) ?_
        refine AW_icmp_eq 36 dX9_sheet_24 (by decide) (fun h3 => ?_) (fun h3 => ?_)
        · replace hf := rk_it hf h3
          refine AW_sb (rk_sbn (rk_sbn (rk_sbs (rk_sbs (rk_sbs rk_sb0))))) ?_
          exact b_X9_sheet_j36 (Nat.le_trans (by decide) hd) hL hf hq
        · replace hf := rk_if hf h3
          refine AW_iload_n3 dX9_sheet_27 ?_
          refine AW_bipush (v := 40) dX9_sheet_28 (by decide) ?_
          refine AW_icmp_le 36 dX9_sheet_30 (by decide) (fun h4 => ?_) (fun h4 => ?_)
          · replace hf := rk_it hf h4
            refine AW_sb (rk_sbn (rk_sbn (rk_sbs (rk_sbs (rk_sbs rk_sb0))))) ?_
            exact b_X9_sheet_j36 (Nat.le_trans (by decide) hd) hL hf hq
          · replace hf := rk_if hf h4
            refine AW_bipush (v := (-2)) dX9_sheet_33 (by decide) ?_
            exact AW_iret dX9_sheet_35 rfl (hq _ _ (Option.some.inj hf).symm)
theorem w_X9_sheet {G : rk_G} {l : Launch} {d : Nat} {n : Nat} {S : rk_Sh} {I : rk_I} {J : rk_J} {R : rk_R} {a1 : Int32} {a2 : Int32} {a3 : Int32} {v8 : Int32} {I8 : rk_I} (hd : 2 ≤ d) (hL : rk_LC S R) (hf : f_X9_sheet S I R a1 a2 a3 = some (v8, I8)) :
    CW G l yX9_sheet cX9_sheet 5 (some .int) d 0 0 [.ref 0, .int a1, .int a2, .int a3] n S I J R (rk_qi v8 n S I8 J R True) :=
  CW.of (by decide +kernel) (Nat.le_of_ble_eq_true rfl) (rk_sbs (rk_sbs (rk_sbs (rk_sbs (rk_sbe rk_sb0))))) (b_X9_sheet hd hL hf (fun v9 I9 h9 => by cases h9; exact ⟨rfl, rfl, rfl, rfl, rfl, rfl, trivial⟩))
noncomputable def f_X10_isSheet (a0 : Int32) : Option (Int32) :=
(f_X10_in a0.toInt64 0 3).bind fun x1 =>
(rk_bl x1).bind fun x2 =>
some x2
theorem b_X10_isSheet {G : rk_G} {l : Launch} {d kc ks : Nat} {n : Nat} {S : rk_Sh} {I : rk_I} {J : rk_J} {R : rk_R} {Q : rk_Q} {a0 : Int32} {r : Int32} (hd : 1 ≤ d) (hf : f_X10_isSheet a0 = some r) (hq : ∀ (v9 : Int32), r = v9 → Q (some (.int v9)) n S I J R) :
    AW G l yX10_isSheet cX10_isSheet 1 (some .boolean) d kc ks 0 [some (.int a0)] [] n S I J R Q := by
  unfold f_X10_isSheet at hf
  refine AW_iload_n0 dX10_isSheet_0 ?_
  refine AW_i2l dX10_isSheet_1 ?_
  refine AW_lconst (v := 0) dX10_isSheet_2 (by decide) ?_
  refine AW_ldc2 dX10_isSheet_3 kv_X10_368 ?_
  replace hf := rk_bd hf
  obtain ⟨x1, e1, hf⟩ := hf
  refine AW_iS3iz (w_X10_in (d := 0) e1) dX10_isSheet_6 kl_X10_114 (Nat.le_trans (by decide) hd) (by decide) (Nat.le_of_ble_eq_true rfl) (fun _ => ?_)
  replace hf := rk_bd hf
  obtain ⟨x2, e2, hf⟩ := hf
  exact AW_zr dX10_isSheet_9 rfl e2 (hq _ (Option.some.inj hf).symm)
theorem w_X10_isSheet {G : rk_G} {l : Launch} {d : Nat} {n : Nat} {S : rk_Sh} {I : rk_I} {J : rk_J} {R : rk_R} {a0 : Int32} {v8 : Int32} (hd : 1 ≤ d) (hf : f_X10_isSheet a0 = some v8) :
    CW G l yX10_isSheet cX10_isSheet 1 (some .boolean) d 0 0 [.int a0] n S I J R (rk_qi v8 n S I J R True) :=
  CW.of (by decide +kernel) (Nat.le_of_ble_eq_true rfl) (rk_sbs rk_sb0) (b_X10_isSheet hd hf (fun v9 h9 => by cases h9; exact ⟨rfl, rfl, rfl, rfl, rfl, rfl, trivial⟩))
noncomputable def f_X10_sheet_l77 (I : rk_I) (u1 : Int32) (u2 : Int32) (u3 : Int32) (s4 : Int32) : Option ((Int32 × rk_I) ⊕ (Int32 × rk_I)) :=
if u3 ≤ s4 then (
some (.inr (s4, I))) else (
if u2 < 0 then (
some (.inr (s4, I))) else (
(rk_wr I 56 160 ((40 * u1) + s4) 0).bind fun I1 =>
some (.inl ((s4 + 1), I1))))
theorem b_X10_sheet_l77 {G : rk_G} {l : Launch} {d kc ks : Nat} {n : Nat} {S : rk_Sh} {I : rk_I} {J : rk_J} {R : rk_R} {Q : rk_Q} {u1 : Int32} {u2 : Int32} {u3 : Int32} {s4 : Int32} {r : (Int32 × rk_I) ⊕ (Int32 × rk_I)} (hd : 2 ≤ d) (hM : rk_LM S R) (hf : f_X10_sheet_l77 I u1 u2 u3 s4 = some r) (hc : ∀ (w0 : Int32) (I9 : rk_I), r = .inl (w0, I9) → AW G l yX10_sheet cX10_sheet 5 (some .int) d kc ks 77 [some (.ref 31), some (.int u1), some (.int u2), some (.int u3), some (.int w0)] [] n S I9 J R Q) (he : ∀ (w0 : Int32) (I9 : rk_I), r = .inr (w0, I9) → AW G l yX10_sheet cX10_sheet 5 (some .int) d kc ks 106 [some (.ref 31), some (.int u1), some (.int u2), some (.int u3), some (.int w0)] [] n S I9 J R Q) :
    AW G l yX10_sheet cX10_sheet 5 (some .int) d kc ks 77 [some (.ref 31), some (.int u1), some (.int u2), some (.int u3), some (.int s4)] [] n S I J R Q := by
  unfold f_X10_sheet_l77 at hf
  refine AW_iload_4 dX10_sheet_77 ?_
  refine AW_iload_n3 dX10_sheet_79 ?_
  refine AW_icmp_ge 106 dX10_sheet_80 (by decide) (fun h1 => ?_) (fun h1 => ?_)
  · replace hf := rk_it hf h1
    refine AW_sb (rk_sbs (rk_sbs (rk_sbs (rk_sbs (rk_sbs rk_sb0))))) ?_
    exact he _ _ (Option.some.inj hf).symm
  · replace hf := rk_if hf h1
    refine AW_iload_n2 dX10_sheet_83 ?_
    refine AW_if_lt 106 dX10_sheet_84 (by decide) (fun h2 => ?_) (fun h2 => ?_)
    · replace hf := rk_it hf h2
      refine AW_sb (rk_sbs (rk_sbs (rk_sbs (rk_sbs (rk_sbs rk_sb0))))) ?_
      exact he _ _ (Option.some.inj hf).symm
    · replace hf := rk_if hf h2
      refine AW_aload_n0 dX10_sheet_87 ?_
      refine AW_getR dX10_sheet_88 kf_X10_87 rfl (hM.1 31 (by decide) (by decide)) (by decide) (hM.2 31 45 56 rfl) ?_
      refine AW_bipush (v := 40) dX10_sheet_91 (by decide) ?_
      refine AW_iload_n1 dX10_sheet_93 ?_
      refine AW_imul dX10_sheet_94 ?_
      refine AW_iload_4 dX10_sheet_95 ?_
      refine AW_iadd dX10_sheet_97 ?_
      refine AW_iconst (v := 0) dX10_sheet_98 (by decide) ?_
      replace hf := rk_bd hf
      obtain ⟨I1, e1, hf⟩ := hf
      refine AW_wr dX10_sheet_99 (hM.1 56 (by decide) (by decide)) e1 ?_
      refine AW_iinc_4 (v := 1) dX10_sheet_100 (by decide) (by decide) rfl ?_
      refine AW_goto 77 dX10_sheet_103 (by decide) ?_
      refine AW_sb (rk_sbs (rk_sbs (rk_sbs (rk_sbs (rk_sbs rk_sb0))))) ?_
      exact hc _ _ (Option.some.inj hf).symm
theorem L_X10_sheet_w77 {G : rk_G} {l : Launch} {d kc ks : Nat} {n : Nat} {S : rk_Sh} {J : rk_J} {R : rk_R} {Q : rk_Q} {u1 : Int32} {u2 : Int32} {u3 : Int32} {r : Int32 × rk_I} (hd : 2 ≤ d) (hM : rk_LM S R) (he : ∀ (w0 : Int32) (I9 : rk_I), r = (w0, I9) → AW G l yX10_sheet cX10_sheet 5 (some .int) d kc ks 106 [some (.ref 31), some (.int u1), some (.int u2), some (.int u3), some (.int w0)] [] n S I9 J R Q) :
    ∀ (m9 : Nat) (s4 : Int32) (I : rk_I), rk_loop (fun a9 => f_X10_sheet_l77 a9.2 u1 u2 u3 a9.1) m9 (s4, I) = some r → AW G l yX10_sheet cX10_sheet 5 (some .int) d kc ks 77 [some (.ref 31), some (.int u1), some (.int u2), some (.int u3), some (.int s4)] [] n S I J R Q := by
  intro m9
  induction m9 with
  | zero => intro s4 I hf; cases hf
  | succ m9 ih =>
    intro s4 I hf 
    obtain ⟨r9, hf, hr⟩ := rk_loop_s hf
    exact b_X10_sheet_l77 hd hM hf (fun _ _ h9 => by subst h9; exact ih _ _ hr) (fun _ _ h9 => by subst h9; exact he _ _ hr.symm)
noncomputable def f_X10_sheet_j59 (I : rk_I) (j1 : Int32) (j2 : Int32) (j3 : Int32) (t1 : Int32) (t2 : Int32) : Option (Int32 × rk_I) :=
(rk_bl t2).bind fun x1 =>
(rk_wr I 53 4 t1 x1).bind fun I1 =>
(rk_wr I1 54 4 j1 j2).bind fun I2 =>
(rk_wr I2 55 4 j1 j3).bind fun I3 =>
rk_b2 (rk_while (fun a9 => f_X10_sheet_l77 a9.2 j1 j2 j3 a9.1) (0, I3)) fun x2 I4 =>
some (1, I4)
theorem b_X10_sheet_j59 {G : rk_G} {l : Launch} {d kc ks : Nat} {n : Nat} {S : rk_Sh} {I : rk_I} {J : rk_J} {R : rk_R} {Q : rk_Q} {j1 : Int32} {j2 : Int32} {j3 : Int32} {t1 : Int32} {t2 : Int32} {r : Int32 × rk_I} (hd : 2 ≤ d) (hM : rk_LM S R) (hf : f_X10_sheet_j59 I j1 j2 j3 t1 t2 = some r) (hq : ∀ (v9 : Int32) (I9 : rk_I), r = (v9, I9) → Q (some (.int v9)) n S I9 J R) :
    AW G l yX10_sheet cX10_sheet 5 (some .int) d kc ks 59 [some (.ref 31), some (.int j1), some (.int j2), some (.int j3), none] [.int t2, .int t1, .ref 53] n S I J R Q := by
  unfold f_X10_sheet_j59 at hf
  replace hf := rk_bd hf
  obtain ⟨x1, e1, hf⟩ := hf
  obtain ⟨e1, hx9⟩ := rk_bl_sp e1
  rw [e1]
  replace hf := rk_bd hf
  obtain ⟨I1, e2, hf⟩ := hf
  refine AW_wrz dX10_sheet_59 (hM.1 53 (by decide) (by decide)) hx9 e2 ?_
  refine AW_aload_n0 dX10_sheet_60 ?_
  refine AW_getR dX10_sheet_61 kf_X10_81 rfl (hM.1 31 (by decide) (by decide)) (by decide) (hM.2 31 43 54 rfl) ?_
  refine AW_iload_n1 dX10_sheet_64 ?_
  refine AW_iload_n2 dX10_sheet_65 ?_
  replace hf := rk_bd hf
  obtain ⟨I2, e3, hf⟩ := hf
  refine AW_wr dX10_sheet_66 (hM.1 54 (by decide) (by decide)) e3 ?_
  refine AW_aload_n0 dX10_sheet_67 ?_
  refine AW_getR dX10_sheet_68 kf_X10_84 rfl (hM.1 31 (by decide) (by decide)) (by decide) (hM.2 31 44 55 rfl) ?_
  refine AW_iload_n1 dX10_sheet_71 ?_
  refine AW_iload_n3 dX10_sheet_72 ?_
  replace hf := rk_bd hf
  obtain ⟨I3, e4, hf⟩ := hf
  refine AW_wr dX10_sheet_73 (hM.1 55 (by decide) (by decide)) e4 ?_
  refine AW_iconst (v := 0) dX10_sheet_74 (by decide) ?_
  refine AW_istore_4 dX10_sheet_75 (by decide) rfl ?_
  refine AW_sb (rk_sbs (rk_sbs (rk_sbs (rk_sbs (rk_sbs rk_sb0))))) ?_
  replace hf := rk_bd2 hf
  obtain ⟨x2, I4, e5, hf⟩ := hf
  obtain ⟨m1, e5⟩ := rk_while_sp e5
  refine L_X10_sheet_w77 (Nat.le_trans (by decide) hd) hM ?_ m1 _ _ e5
  intro x2 I4 h9
  cases h9
  refine AW_iconst (v := 1) dX10_sheet_106 (by decide) ?_
  exact AW_iret dX10_sheet_107 rfl (hq _ _ (Option.some.inj hf).symm)
noncomputable def f_X10_sheet_j45 (I : rk_I) (j1 : Int32) (j2 : Int32) (j3 : Int32) : Option (Int32 × rk_I) :=
if j2 < 0 then (
f_X10_sheet_j59 I j1 j2 j3 j1 0) else (
f_X10_sheet_j59 I j1 j2 j3 j1 1)
theorem b_X10_sheet_j45 {G : rk_G} {l : Launch} {d kc ks : Nat} {n : Nat} {S : rk_Sh} {I : rk_I} {J : rk_J} {R : rk_R} {Q : rk_Q} {j1 : Int32} {j2 : Int32} {j3 : Int32} {r : Int32 × rk_I} (hd : 2 ≤ d) (hM : rk_LM S R) (hf : f_X10_sheet_j45 I j1 j2 j3 = some r) (hq : ∀ (v9 : Int32) (I9 : rk_I), r = (v9, I9) → Q (some (.int v9)) n S I9 J R) :
    AW G l yX10_sheet cX10_sheet 5 (some .int) d kc ks 45 [some (.ref 31), some (.int j1), some (.int j2), some (.int j3), none] [] n S I J R Q := by
  unfold f_X10_sheet_j45 at hf
  refine AW_aload_n0 dX10_sheet_45 ?_
  refine AW_getR dX10_sheet_46 kf_X10_77 rfl (hM.1 31 (by decide) (by decide)) (by decide) (hM.2 31 42 53 rfl) ?_
  refine AW_iload_n1 dX10_sheet_49 ?_
  refine AW_iload_n2 dX10_sheet_50 ?_
  refine AW_if_lt 58 dX10_sheet_51 (by decide) (fun h1 => ?_) (fun h1 => ?_)
  · replace hf := rk_it hf h1
    refine AW_iconst (v := 0) dX10_sheet_58 (by decide) ?_
    refine AW_sb (rk_sbs (rk_sbs (rk_sbs (rk_sbs (rk_sbn rk_sb0))))) ?_
    exact b_X10_sheet_j59 (Nat.le_trans (by decide) hd) hM hf hq
  · replace hf := rk_if hf h1
    refine AW_iconst (v := 1) dX10_sheet_54 (by decide) ?_
    refine AW_goto 59 dX10_sheet_55 (by decide) ?_
    refine AW_sb (rk_sbs (rk_sbs (rk_sbs (rk_sbs (rk_sbn rk_sb0))))) ?_
    exact b_X10_sheet_j59 (Nat.le_trans (by decide) hd) hM hf hq
noncomputable def f_X10_sheet_j34 (I : rk_I) (j1 : Int32) (j2 : Int32) (j3 : Int32) : Option (Int32 × rk_I) :=
if j2 < 0 then (
f_X10_sheet_j45 I j1 j2 j3) else (
if 0 ≤ j3 then (
f_X10_sheet_j45 I j1 j2 j3) else (
some ((-14), I)))
theorem b_X10_sheet_j34 {G : rk_G} {l : Launch} {d kc ks : Nat} {n : Nat} {S : rk_Sh} {I : rk_I} {J : rk_J} {R : rk_R} {Q : rk_Q} {j1 : Int32} {j2 : Int32} {j3 : Int32} {r : Int32 × rk_I} (hd : 2 ≤ d) (hM : rk_LM S R) (hf : f_X10_sheet_j34 I j1 j2 j3 = some r) (hq : ∀ (v9 : Int32) (I9 : rk_I), r = (v9, I9) → Q (some (.int v9)) n S I9 J R) :
    AW G l yX10_sheet cX10_sheet 5 (some .int) d kc ks 34 [some (.ref 31), some (.int j1), some (.int j2), some (.int j3), none] [] n S I J R Q := by
  unfold f_X10_sheet_j34 at hf
  refine AW_iload_n2 dX10_sheet_34 ?_
  refine AW_if_lt 45 dX10_sheet_35 (by decide) (fun h1 => ?_) (fun h1 => ?_)
  · replace hf := rk_it hf h1
    refine AW_sb (rk_sbs (rk_sbs (rk_sbs (rk_sbs (rk_sbn rk_sb0))))) ?_
    exact b_X10_sheet_j45 (Nat.le_trans (by decide) hd) hM hf hq
  · replace hf := rk_if hf h1
    refine AW_iload_n3 dX10_sheet_38 ?_
    refine AW_if_ge 45 dX10_sheet_39 (by decide) (fun h2 => ?_) (fun h2 => ?_)
    · replace hf := rk_it hf h2
      refine AW_sb (rk_sbs (rk_sbs (rk_sbs (rk_sbs (rk_sbn rk_sb0))))) ?_
      exact b_X10_sheet_j45 (Nat.le_trans (by decide) hd) hM hf hq
    · replace hf := rk_if hf h2
      refine AW_bipush (v := (-14)) dX10_sheet_42 (by decide) ?_
      exact AW_iret dX10_sheet_44 rfl (hq _ _ (Option.some.inj hf).symm)
noncomputable def f_X10_sheet (I : rk_I) (a1 : Int32) (a2 : Int32) (a3 : Int32) : Option (Int32 × rk_I) :=
(f_X10_isSheet a1).bind fun x1 =>
if x1 = 0 then (
some ((-2), I)) else (
(f_X10_in a2.toInt64 (-1) 2).bind fun x2 =>
if x2 = 0 then (
some ((-2), I)) else (
if a2 < 0 then (
f_X10_sheet_j34 I a1 a2 a3) else (
if a3 ≤ 40 then (
f_X10_sheet_j34 I a1 a2 a3) else (
some ((-2), I)))))
theorem b_X10_sheet {G : rk_G} {l : Launch} {d kc ks : Nat} {n : Nat} {S : rk_Sh} {I : rk_I} {J : rk_J} {R : rk_R} {Q : rk_Q} {a1 : Int32} {a2 : Int32} {a3 : Int32} {r : Int32 × rk_I} (hd : 2 ≤ d) (hM : rk_LM S R) (hf : f_X10_sheet I a1 a2 a3 = some r) (hq : ∀ (v9 : Int32) (I9 : rk_I), r = (v9, I9) → Q (some (.int v9)) n S I9 J R) :
    AW G l yX10_sheet cX10_sheet 5 (some .int) d kc ks 0 [some (.ref 31), some (.int a1), some (.int a2), some (.int a3), none] [] n S I J R Q := by
  unfold f_X10_sheet at hf
  refine AW_iload_n1 dX10_sheet_0 ?_
  replace hf := rk_bd hf
  obtain ⟨x1, e1, hf⟩ := hf
  refine AW_iS1iz (w_X10_isSheet (d := 1) (Nat.le_refl _) e1) dX10_sheet_1 kl_X10_370 (Nat.le_trans (by decide) hd) (by decide) (Nat.le_of_ble_eq_true rfl) (fun _ => ?_)
  refine AW_if_eq 31 dX10_sheet_4 (by decide) (fun h1 => ?_) (fun h1 => ?_)
  · replace hf := rk_it hf h1
    refine AW_bipush (v := (-2)) dX10_sheet_31 (by decide) ?_
    exact AW_iret dX10_sheet_33 rfl (hq _ _ (Option.some.inj hf).symm)
  · replace hf := rk_if hf h1
    refine AW_iload_n2 dX10_sheet_7 ?_
    refine AW_i2l dX10_sheet_8 ?_
    refine AW_ldc2 dX10_sheet_9 kv_X10_134 ?_
    refine AW_ldc2 dX10_sheet_12 kv_X10_132 ?_
    replace hf := rk_bd hf
    obtain ⟨x2, e2, hf⟩ := hf
    refine AW_iS3iz (w_X10_in (d := 0) e2) dX10_sheet_15 kl_X10_114 (Nat.le_trans (by decide) hd) (by decide) (Nat.le_of_ble_eq_true rfl) (fun _ => ?_)
    refine AW_if_eq 31 dX10_sheet_18 (by decide) (fun h2 => ?_) (fun h2 => ?_)
    · replace hf := rk_it hf h2
      refine AW_bipush (v := (-2)) dX10_sheet_31 (by decide) ?_
      exact AW_iret dX10_sheet_33 rfl (hq _ _ (Option.some.inj hf).symm)
    · replace hf := rk_if hf h2
      refine AW_iload_n2 dX10_sheet_21 ?_
      refine AW_if_lt 34 dX10_sheet_22 (by decide) (fun h3 => ?_) (fun h3 => ?_)
      · replace hf := rk_it hf h3
        refine AW_sb (rk_sbs (rk_sbs (rk_sbs (rk_sbs (rk_sbn rk_sb0))))) ?_
        exact b_X10_sheet_j34 (Nat.le_trans (by decide) hd) hM hf hq
      · replace hf := rk_if hf h3
        refine AW_iload_n3 dX10_sheet_25 ?_
        refine AW_bipush (v := 40) dX10_sheet_26 (by decide) ?_
        refine AW_icmp_le 34 dX10_sheet_28 (by decide) (fun h4 => ?_) (fun h4 => ?_)
        · replace hf := rk_it hf h4
          refine AW_sb (rk_sbs (rk_sbs (rk_sbs (rk_sbs (rk_sbn rk_sb0))))) ?_
          exact b_X10_sheet_j34 (Nat.le_trans (by decide) hd) hM hf hq
        · replace hf := rk_if hf h4
          refine AW_bipush (v := (-2)) dX10_sheet_31 (by decide) ?_
          exact AW_iret dX10_sheet_33 rfl (hq _ _ (Option.some.inj hf).symm)
theorem w_X10_sheet {G : rk_G} {l : Launch} {d : Nat} {n : Nat} {S : rk_Sh} {I : rk_I} {J : rk_J} {R : rk_R} {a1 : Int32} {a2 : Int32} {a3 : Int32} {v8 : Int32} {I8 : rk_I} (hd : 2 ≤ d) (hM : rk_LM S R) (hf : f_X10_sheet I a1 a2 a3 = some (v8, I8)) :
    CW G l yX10_sheet cX10_sheet 5 (some .int) d 0 0 [.ref 31, .int a1, .int a2, .int a3] n S I J R (rk_qi v8 n S I8 J R True) :=
  CW.of (by decide +kernel) (Nat.le_of_ble_eq_true rfl) (rk_sbs (rk_sbs (rk_sbs (rk_sbs (rk_sbe rk_sb0))))) (b_X10_sheet hd hM hf (fun v9 I9 h9 => by cases h9; exact ⟨rfl, rfl, rfl, rfl, rfl, rfl, trivial⟩))
noncomputable def f_X6_put (S : rk_Sh) (I : rk_I) (R : rk_R) (a0 : Nat) (a1 : Int32) (a2 : Int32) : Option (rk_I) :=
(some (R a0 0)).bind fun q1 =>
if (I a0 1) = 0 then (
(q1).bind fun o3 =>
(rk_wrD S I o3 a1 (Int8.toInt32 (Int32.toInt8 a2))).bind fun I3 =>
some I3) else (
if (I a0 1) = 1 then (
(q1).bind fun o2 =>
(rk_wrD S I o2 a1 (Int16.toInt32 (Int32.toInt16 a2))).bind fun I2 =>
some I2) else (
(q1).bind fun o1 =>
(rk_wrD S I o1 a1 a2).bind fun I1 =>
some I1))
theorem b_X6_put {G : rk_G} {l : Launch} {d kc ks : Nat} {n : Nat} {S : rk_Sh} {I : rk_I} {J : rk_J} {R : rk_R} {Q : rk_Q} {a0 : Nat} {a1 : Int32} {a2 : Int32} {r : rk_I} (hS_a0 : S a0 = (6, 3)) (hf : f_X6_put S I R a0 a1 a2 = some r) (hq : ∀ (I9 : rk_I), r = I9 → Q (none) n S I9 J R) :
    AW G l yX6_put cX6_put 3 none d kc ks 0 [some (.ref a0), some (.int a1), some (.int a2)] [] n S I J R Q := by
  unfold f_X6_put at hf
  refine AW_aload_n0 dX6_put_0 ?_
  replace hf := rk_bd hf
  obtain ⟨q1, e1, hf⟩ := hf
  refine AW_getQ dX6_put_1 kf_X6_9 rfl hS_a0 (by decide) e1 ?_
  refine AW_iload_n1 dX6_put_4 ?_
  refine AW_aload_n0 dX6_put_5 ?_
  refine AW_getI dX6_put_6 kf_X6_15 rfl hS_a0 (by decide) ?_
  refine AW_if_ne 17 dX6_put_9 (by decide) (fun h1 => ?_) (fun h1 => ?_)
  · replace hf := rk_if hf h1
    refine AW_aload_n0 dX6_put_17 ?_
    refine AW_getI dX6_put_18 kf_X6_15 rfl hS_a0 (by decide) ?_
    refine AW_iconst (v := 1) dX6_put_21 (by decide) ?_
    refine AW_icmp_ne 30 dX6_put_22 (by decide) (fun h2 => ?_) (fun h2 => ?_)
    · replace hf := rk_if hf h2
      refine AW_iload_n2 dX6_put_30 ?_
      replace hf := rk_bd hf
      obtain ⟨o1, e2, hf⟩ := hf
      subst e2
      replace hf := rk_bd hf
      obtain ⟨I1, e3, hf⟩ := hf
      refine AW_wrD dX6_put_31 e3 ?_
      exact AW_vret dX6_put_32 rfl (hq _ (Option.some.inj hf).symm)
    · replace hf := rk_it hf h2
      refine AW_iload_n2 dX6_put_25 ?_
      refine AW_i2s dX6_put_26 ?_
      refine AW_goto 31 dX6_put_27 (by decide) ?_
      replace hf := rk_bd hf
      obtain ⟨o2, e4, hf⟩ := hf
      subst e4
      replace hf := rk_bd hf
      obtain ⟨I2, e5, hf⟩ := hf
      refine AW_wrD dX6_put_31 e5 ?_
      exact AW_vret dX6_put_32 rfl (hq _ (Option.some.inj hf).symm)
  · replace hf := rk_it hf h1
    refine AW_iload_n2 dX6_put_12 ?_
    refine AW_i2b dX6_put_13 ?_
    refine AW_goto 31 dX6_put_14 (by decide) ?_
    replace hf := rk_bd hf
    obtain ⟨o3, e6, hf⟩ := hf
    subst e6
    replace hf := rk_bd hf
    obtain ⟨I3, e7, hf⟩ := hf
    refine AW_wrD dX6_put_31 e7 ?_
    exact AW_vret dX6_put_32 rfl (hq _ (Option.some.inj hf).symm)
theorem w_X6_put {G : rk_G} {l : Launch} {d : Nat} {n : Nat} {S : rk_Sh} {I : rk_I} {J : rk_J} {R : rk_R} {a0 : Nat} {a1 : Int32} {a2 : Int32} {I8 : rk_I} (hS_a0 : S a0 = (6, 3)) (hf : f_X6_put S I R a0 a1 a2 = some I8) :
    CW G l yX6_put cX6_put 3 none d 0 0 [.ref a0, .int a1, .int a2] n S I J R (rk_qv n S I8 J R True) :=
  CW.of (by decide +kernel) (Nat.le_of_ble_eq_true rfl) (rk_sbs (rk_sbs (rk_sbs rk_sb0))) (b_X6_put hS_a0 hf (fun I9 h9 => by cases h9; exact ⟨rfl, rfl, rfl, rfl, rfl, rfl, trivial⟩))
noncomputable def f_X9_cell (S : rk_Sh) (I : rk_I) (R : rk_R) (a1 : Int32) (a2 : Int32) (a3 : Int32) : Option (Int32 × rk_I) :=
(f_X9_sheetAt R a1).bind fun q1 =>
rk_oc q1 (
some ((-2), I)) (fun o1 => (
(rk_ck S o1 6 3).bind fun _ =>
if (I o1 1) = (-1) then (
some ((-11), I)) else (
if a2 < 0 then (
some ((-12), I)) else (
if a2 < (I o1 2) then (
(f_X6_put S I R o1 a2 a3).bind fun I1 =>
some (1, I1)) else (
some ((-12), I))))))
theorem b_X9_cell {G : rk_G} {l : Launch} {d kc ks : Nat} {n : Nat} {S : rk_Sh} {I : rk_I} {J : rk_J} {R : rk_R} {Q : rk_Q} {a1 : Int32} {a2 : Int32} {a3 : Int32} {r : Int32 × rk_I} (hd : 1 ≤ d) (hL : rk_LC S R) (hf : f_X9_cell S I R a1 a2 a3 = some r) (hq : ∀ (v9 : Int32) (I9 : rk_I), r = (v9, I9) → Q (some (.int v9)) n S I9 J R) :
    AW G l yX9_cell cX9_cell 5 (some .int) d kc ks 0 [some (.ref 0), some (.int a1), some (.int a2), some (.int a3), none] [] n S I J R Q := by
  unfold f_X9_cell at hf
  refine AW_aload_n0 dX9_cell_0 ?_
  refine AW_iload_n1 dX9_cell_1 ?_
  replace hf := rk_bd hf
  obtain ⟨q1, e1, hf⟩ := hf
  refine AW_iV1oz (w_X9_sheetAt (d := 0) hL e1) dX9_cell_2 kl_X9_286 (hL.1 0 (by decide)) rfl (Nat.le_trans (by decide) hd) (by decide) (Nat.le_of_ble_eq_true rfl) (fun _ => ?_)
  refine AW_astoreO_4 dX9_cell_5 (by decide) rfl ?_
  refine AW_aloadO_4 dX9_cell_7 ?_
  rcases q1 with _ | o1
  · replace hf := rk_oc_n hf
    refine AW_ifnonnullN dX9_cell_9 ?_
    refine AW_bipush (v := (-2)) dX9_cell_12 (by decide) ?_
    exact AW_iret dX9_cell_14 rfl (hq _ _ (Option.some.inj hf).symm)
  · replace hf := rk_oc_s hf
    refine AW_ifnonnull 15 dX9_cell_9 (by decide) ?_
    refine AW_aload_4 dX9_cell_15 ?_
    replace hf := rk_bd hf
    obtain ⟨_, e2, hf⟩ := hf
    have e2 := rk_ck_sp e2
    refine AW_getI dX9_cell_17 kf_X9_294 rfl e2 (by decide) ?_
    refine AW_iconst (v := (-1)) dX9_cell_20 (by decide) ?_
    refine AW_icmp_ne 27 dX9_cell_21 (by decide) (fun h1 => ?_) (fun h1 => ?_)
    · replace hf := rk_if hf h1
      refine AW_iload_n2 dX9_cell_27 ?_
      refine AW_if_lt 40 dX9_cell_28 (by decide) (fun h2 => ?_) (fun h2 => ?_)
      · replace hf := rk_it hf h2
        refine AW_bipush (v := (-12)) dX9_cell_40 (by decide) ?_
        exact AW_iret dX9_cell_42 rfl (hq _ _ (Option.some.inj hf).symm)
      · replace hf := rk_if hf h2
        refine AW_iload_n2 dX9_cell_31 ?_
        refine AW_aload_4 dX9_cell_32 ?_
        refine AW_getI dX9_cell_34 kf_X9_297 rfl e2 (by decide) ?_
        refine AW_icmp_lt 43 dX9_cell_37 (by decide) (fun h3 => ?_) (fun h3 => ?_)
        · replace hf := rk_it hf h3
          refine AW_aload_4 dX9_cell_43 ?_
          refine AW_iload_n2 dX9_cell_45 ?_
          refine AW_iload_n3 dX9_cell_46 ?_
          replace hf := rk_bd hf
          obtain ⟨I1, e3, hf⟩ := hf
          refine AW_iV2vz (w_X6_put (d := 0) e2 e3) dX9_cell_47 kl_X9_298 e2 rfl (Nat.le_trans (by decide) hd) (by decide) (Nat.le_of_ble_eq_true rfl) (fun _ => ?_)
          refine AW_iconst (v := 1) dX9_cell_50 (by decide) ?_
          exact AW_iret dX9_cell_51 rfl (hq _ _ (Option.some.inj hf).symm)
        · replace hf := rk_if hf h3
          refine AW_bipush (v := (-12)) dX9_cell_40 (by decide) ?_
          exact AW_iret dX9_cell_42 rfl (hq _ _ (Option.some.inj hf).symm)
    · replace hf := rk_it hf h1
      refine AW_bipush (v := (-11)) dX9_cell_24 (by decide) ?_
      exact AW_iret dX9_cell_26 rfl (hq _ _ (Option.some.inj hf).symm)
theorem w_X9_cell {G : rk_G} {l : Launch} {d : Nat} {n : Nat} {S : rk_Sh} {I : rk_I} {J : rk_J} {R : rk_R} {a1 : Int32} {a2 : Int32} {a3 : Int32} {v8 : Int32} {I8 : rk_I} (hd : 1 ≤ d) (hL : rk_LC S R) (hf : f_X9_cell S I R a1 a2 a3 = some (v8, I8)) :
    CW G l yX9_cell cX9_cell 5 (some .int) d 0 0 [.ref 0, .int a1, .int a2, .int a3] n S I J R (rk_qi v8 n S I8 J R True) :=
  CW.of (by decide +kernel) (Nat.le_of_ble_eq_true rfl) (rk_sbs (rk_sbs (rk_sbs (rk_sbs (rk_sbe rk_sb0))))) (b_X9_cell hd hL hf (fun v9 I9 h9 => by cases h9; exact ⟨rfl, rfl, rfl, rfl, rfl, rfl, trivial⟩))
noncomputable def f_X10_cell (I : rk_I) (a1 : Int32) (a2 : Int32) (a3 : Int32) : Option (Int32 × rk_I) :=
(f_X10_isSheet a1).bind fun x1 =>
if x1 = 0 then (
some ((-2), I)) else (
(rk_rd I 53 4 a1).bind fun x2 =>
if x2 = 0 then (
some ((-11), I)) else (
(rk_rd I 55 4 a1).bind fun x3 =>
(f_X10_in a2.toInt64 0 (x3 - 1).toInt64).bind fun x4 =>
if x4 = 0 then (
some ((-12), I)) else (
(rk_rd I 54 4 a1).bind fun x5 =>
if x5 = 0 then (
(rk_wr I 56 160 ((40 * a1) + a2) (Int8.toInt32 (Int32.toInt8 a3))).bind fun I3 =>
some (1, I3)) else (
(rk_rd I 54 4 a1).bind fun x6 =>
if x6 = 1 then (
(rk_wr I 56 160 ((40 * a1) + a2) (Int16.toInt32 (Int32.toInt16 a3))).bind fun I2 =>
some (1, I2)) else (
(rk_wr I 56 160 ((40 * a1) + a2) a3).bind fun I1 =>
some (1, I1))))))
theorem b_X10_cell {G : rk_G} {l : Launch} {d kc ks : Nat} {n : Nat} {S : rk_Sh} {I : rk_I} {J : rk_J} {R : rk_R} {Q : rk_Q} {a1 : Int32} {a2 : Int32} {a3 : Int32} {r : Int32 × rk_I} (hd : 2 ≤ d) (hM : rk_LM S R) (hf : f_X10_cell I a1 a2 a3 = some r) (hq : ∀ (v9 : Int32) (I9 : rk_I), r = (v9, I9) → Q (some (.int v9)) n S I9 J R) :
    AW G l yX10_cell cX10_cell 4 (some .int) d kc ks 0 [some (.ref 31), some (.int a1), some (.int a2), some (.int a3)] [] n S I J R Q := by
  unfold f_X10_cell at hf
  refine AW_iload_n1 dX10_cell_0 ?_
  replace hf := rk_bd hf
  obtain ⟨x1, e1, hf⟩ := hf
  refine AW_iS1iz (w_X10_isSheet (d := 1) (Nat.le_refl _) e1) dX10_cell_1 kl_X10_370 (Nat.le_trans (by decide) hd) (by decide) (Nat.le_of_ble_eq_true rfl) (fun _ => ?_)
  refine AW_if_ne 10 dX10_cell_4 (by decide) (fun h1 => ?_) (fun h1 => ?_)
  · replace hf := rk_if hf h1
    refine AW_aload_n0 dX10_cell_10 ?_
    refine AW_getR dX10_cell_11 kf_X10_77 rfl (hM.1 31 (by decide) (by decide)) (by decide) (hM.2 31 42 53 rfl) ?_
    refine AW_iload_n1 dX10_cell_14 ?_
    replace hf := rk_bd hf
    obtain ⟨x2, e2, hf⟩ := hf
    refine AW_rdz dX10_cell_15 (hM.1 53 (by decide) (by decide)) e2 ?_
    refine AW_if_ne 22 dX10_cell_16 (by decide) (fun h2 => ?_) (fun h2 => ?_)
    · replace hf := rk_if hf h2
      refine AW_iload_n2 dX10_cell_22 ?_
      refine AW_i2l dX10_cell_23 ?_
      refine AW_lconst (v := 0) dX10_cell_24 (by decide) ?_
      refine AW_aload_n0 dX10_cell_25 ?_
      refine AW_getR dX10_cell_26 kf_X10_84 rfl (hM.1 31 (by decide) (by decide)) (by decide) (hM.2 31 44 55 rfl) ?_
      refine AW_iload_n1 dX10_cell_29 ?_
      replace hf := rk_bd hf
      obtain ⟨x3, e3, hf⟩ := hf
      refine AW_rd dX10_cell_30 (hM.1 55 (by decide) (by decide)) e3 ?_
      refine AW_iconst (v := 1) dX10_cell_31 (by decide) ?_
      refine AW_isub dX10_cell_32 ?_
      refine AW_i2l dX10_cell_33 ?_
      replace hf := rk_bd hf
      obtain ⟨x4, e4, hf⟩ := hf
      refine AW_iS3iz (w_X10_in (d := 0) e4) dX10_cell_34 kl_X10_114 (Nat.le_trans (by decide) hd) (by decide) (Nat.le_of_ble_eq_true rfl) (fun _ => ?_)
      refine AW_if_ne 43 dX10_cell_37 (by decide) (fun h3 => ?_) (fun h3 => ?_)
      · replace hf := rk_if hf h3
        refine AW_aload_n0 dX10_cell_43 ?_
        refine AW_getR dX10_cell_44 kf_X10_87 rfl (hM.1 31 (by decide) (by decide)) (by decide) (hM.2 31 45 56 rfl) ?_
        refine AW_bipush (v := 40) dX10_cell_47 (by decide) ?_
        refine AW_iload_n1 dX10_cell_49 ?_
        refine AW_imul dX10_cell_50 ?_
        refine AW_iload_n2 dX10_cell_51 ?_
        refine AW_iadd dX10_cell_52 ?_
        refine AW_aload_n0 dX10_cell_53 ?_
        refine AW_getR dX10_cell_54 kf_X10_81 rfl (hM.1 31 (by decide) (by decide)) (by decide) (hM.2 31 43 54 rfl) ?_
        refine AW_iload_n1 dX10_cell_57 ?_
        replace hf := rk_bd hf
        obtain ⟨x5, e5, hf⟩ := hf
        refine AW_rd dX10_cell_58 (hM.1 54 (by decide) (by decide)) e5 ?_
        refine AW_if_ne 67 dX10_cell_59 (by decide) (fun h4 => ?_) (fun h4 => ?_)
        · replace hf := rk_if hf h4
          refine AW_aload_n0 dX10_cell_67 ?_
          refine AW_getR dX10_cell_68 kf_X10_81 rfl (hM.1 31 (by decide) (by decide)) (by decide) (hM.2 31 43 54 rfl) ?_
          refine AW_iload_n1 dX10_cell_71 ?_
          replace hf := rk_bd hf
          obtain ⟨x6, e6, hf⟩ := hf
          refine AW_rd dX10_cell_72 (hM.1 54 (by decide) (by decide)) e6 ?_
          refine AW_iconst (v := 1) dX10_cell_73 (by decide) ?_
          refine AW_icmp_ne 82 dX10_cell_74 (by decide) (fun h5 => ?_) (fun h5 => ?_)
          · replace hf := rk_if hf h5
            refine AW_iload_n3 dX10_cell_82 ?_
            replace hf := rk_bd hf
            obtain ⟨I1, e7, hf⟩ := hf
            refine AW_wr dX10_cell_83 (hM.1 56 (by decide) (by decide)) e7 ?_
            refine AW_iconst (v := 1) dX10_cell_84 (by decide) ?_
            exact AW_iret dX10_cell_85 rfl (hq _ _ (Option.some.inj hf).symm)
          · replace hf := rk_it hf h5
            refine AW_iload_n3 dX10_cell_77 ?_
            refine AW_i2s dX10_cell_78 ?_
            refine AW_goto 83 dX10_cell_79 (by decide) ?_
            replace hf := rk_bd hf
            obtain ⟨I2, e8, hf⟩ := hf
            refine AW_wr dX10_cell_83 (hM.1 56 (by decide) (by decide)) e8 ?_
            refine AW_iconst (v := 1) dX10_cell_84 (by decide) ?_
            exact AW_iret dX10_cell_85 rfl (hq _ _ (Option.some.inj hf).symm)
        · replace hf := rk_it hf h4
          refine AW_iload_n3 dX10_cell_62 ?_
          refine AW_i2b dX10_cell_63 ?_
          refine AW_goto 83 dX10_cell_64 (by decide) ?_
          replace hf := rk_bd hf
          obtain ⟨I3, e9, hf⟩ := hf
          refine AW_wr dX10_cell_83 (hM.1 56 (by decide) (by decide)) e9 ?_
          refine AW_iconst (v := 1) dX10_cell_84 (by decide) ?_
          exact AW_iret dX10_cell_85 rfl (hq _ _ (Option.some.inj hf).symm)
      · replace hf := rk_it hf h3
        refine AW_bipush (v := (-12)) dX10_cell_40 (by decide) ?_
        exact AW_iret dX10_cell_42 rfl (hq _ _ (Option.some.inj hf).symm)
    · replace hf := rk_it hf h2
      refine AW_bipush (v := (-11)) dX10_cell_19 (by decide) ?_
      exact AW_iret dX10_cell_21 rfl (hq _ _ (Option.some.inj hf).symm)
  · replace hf := rk_it hf h1
    refine AW_bipush (v := (-2)) dX10_cell_7 (by decide) ?_
    exact AW_iret dX10_cell_9 rfl (hq _ _ (Option.some.inj hf).symm)
theorem w_X10_cell {G : rk_G} {l : Launch} {d : Nat} {n : Nat} {S : rk_Sh} {I : rk_I} {J : rk_J} {R : rk_R} {a1 : Int32} {a2 : Int32} {a3 : Int32} {v8 : Int32} {I8 : rk_I} (hd : 2 ≤ d) (hM : rk_LM S R) (hf : f_X10_cell I a1 a2 a3 = some (v8, I8)) :
    CW G l yX10_cell cX10_cell 4 (some .int) d 0 0 [.ref 31, .int a1, .int a2, .int a3] n S I J R (rk_qi v8 n S I8 J R True) :=
  CW.of (by decide +kernel) (Nat.le_of_ble_eq_true rfl) (rk_sbs (rk_sbs (rk_sbs (rk_sbs rk_sb0)))) (b_X10_cell hd hM hf (fun v9 I9 h9 => by cases h9; exact ⟨rfl, rfl, rfl, rfl, rfl, rfl, trivial⟩))
noncomputable def f_X6_has (I : rk_I) (a0 : Nat) (a1 : Int32) (a2 : Int32) : Option (Int32) :=
if a2 < 0 then (
some 0) else (
if a1 < 0 then (
some 0) else (
if ((I a0 2) - a2) < a1 then (
some 0) else (
some 1)))
theorem b_X6_has {G : rk_G} {l : Launch} {d kc ks : Nat} {n : Nat} {S : rk_Sh} {I : rk_I} {J : rk_J} {R : rk_R} {Q : rk_Q} {a0 : Nat} {a1 : Int32} {a2 : Int32} {r : Int32} (hS_a0 : S a0 = (6, 3)) (hf : f_X6_has I a0 a1 a2 = some r) (hq : ∀ (v9 : Int32), r = v9 → Q (some (.int v9)) n S I J R) :
    AW G l yX6_has cX6_has 3 (some .boolean) d kc ks 0 [some (.ref a0), some (.int a1), some (.int a2)] [] n S I J R Q := by
  unfold f_X6_has at hf
  refine AW_iload_n2 dX6_has_0 ?_
  refine AW_if_lt 22 dX6_has_1 (by decide) (fun h1 => ?_) (fun h1 => ?_)
  · replace hf := rk_it hf h1
    refine AW_iconst (v := 0) dX6_has_22 (by decide) ?_
    exact AW_zret dX6_has_23 rfl rfl (hq _ (Option.some.inj hf).symm)
  · replace hf := rk_if hf h1
    refine AW_iload_n1 dX6_has_4 ?_
    refine AW_if_lt 22 dX6_has_5 (by decide) (fun h2 => ?_) (fun h2 => ?_)
    · replace hf := rk_it hf h2
      refine AW_iconst (v := 0) dX6_has_22 (by decide) ?_
      exact AW_zret dX6_has_23 rfl rfl (hq _ (Option.some.inj hf).symm)
    · replace hf := rk_if hf h2
      refine AW_iload_n1 dX6_has_8 ?_
      refine AW_aload_n0 dX6_has_9 ?_
      refine AW_getI dX6_has_10 kf_X6_19 rfl hS_a0 (by decide) ?_
      refine AW_iload_n2 dX6_has_13 ?_
      refine AW_isub dX6_has_14 ?_
      refine AW_icmp_gt 22 dX6_has_15 (by decide) (fun h3 => ?_) (fun h3 => ?_)
      · replace hf := rk_it hf h3
        refine AW_iconst (v := 0) dX6_has_22 (by decide) ?_
        exact AW_zret dX6_has_23 rfl rfl (hq _ (Option.some.inj hf).symm)
      · replace hf := rk_if hf h3
        refine AW_iconst (v := 1) dX6_has_18 (by decide) ?_
        refine AW_goto 23 dX6_has_19 (by decide) ?_
        exact AW_zret dX6_has_23 rfl rfl (hq _ (Option.some.inj hf).symm)
theorem w_X6_has {G : rk_G} {l : Launch} {d : Nat} {n : Nat} {S : rk_Sh} {I : rk_I} {J : rk_J} {R : rk_R} {a0 : Nat} {a1 : Int32} {a2 : Int32} {v8 : Int32} (hS_a0 : S a0 = (6, 3)) (hf : f_X6_has I a0 a1 a2 = some v8) :
    CW G l yX6_has cX6_has 3 (some .boolean) d 0 0 [.ref a0, .int a1, .int a2] n S I J R (rk_qi v8 n S I J R True) :=
  CW.of (by decide +kernel) (Nat.le_of_ble_eq_true rfl) (rk_sbs (rk_sbs (rk_sbs rk_sb0))) (b_X6_has hS_a0 hf (fun v9 h9 => by cases h9; exact ⟨rfl, rfl, rfl, rfl, rfl, rfl, trivial⟩))
noncomputable def f_X9_copy (S : rk_Sh) (I : rk_I) (R : rk_R) (a1 : Int32) (a2 : Int32) (a3 : Int32) (a4 : Int32) (a5 : Int32) : Option (Int32 × rk_I) :=
(f_X9_sheetAt R a1).bind fun q1 =>
(f_X9_sheetAt R a3).bind fun q2 =>
rk_oc q1 (
some ((-2), I)) (fun o1 => (
rk_oc q2 (
some ((-2), I)) (fun o2 => (
(rk_ck S o1 6 3).bind fun _ =>
if (I o1 1) = (-1) then (
some ((-11), I)) else (
(rk_ck S o2 6 3).bind fun _ =>
if (I o2 1) = (-1) then (
some ((-11), I)) else (
if (I o1 1) = (I o2 1) then (
(f_X6_has I o1 a2 a5).bind fun x1 =>
if x1 = 0 then (
some ((-12), I)) else (
(f_X6_has I o2 a4 a5).bind fun x2 =>
if x2 = 0 then (
some ((-12), I)) else (
(some (R o1 0)).bind fun q3 =>
(some (R o2 0)).bind fun q4 =>
(q4).bind fun o3 =>
(q3).bind fun o4 =>
(rk_al S o4).bind fun N1 =>
(rk_al S o3).bind fun N2 =>
(rk_cp I o4 N1 o3 N2 a2 a4 a5).bind fun I1 =>
some (a5, I1)))) else (
some ((-13), I))))))))
theorem b_X9_copy {G : rk_G} {l : Launch} {d kc ks : Nat} {n : Nat} {S : rk_Sh} {I : rk_I} {J : rk_J} {R : rk_R} {Q : rk_Q} {a1 : Int32} {a2 : Int32} {a3 : Int32} {a4 : Int32} {a5 : Int32} {r : Int32 × rk_I} (hd : 1 ≤ d) (hL : rk_LC S R) (hf : f_X9_copy S I R a1 a2 a3 a4 a5 = some r) (hq : ∀ (v9 : Int32) (I9 : rk_I), r = (v9, I9) → Q (some (.int v9)) n S I9 J R) :
    AW G l yX9_copy cX9_copy 8 (some .int) d kc ks 0 [some (.ref 0), some (.int a1), some (.int a2), some (.int a3), some (.int a4), some (.int a5), none, none] [] n S I J R Q := by
  unfold f_X9_copy at hf
  refine AW_aload_n0 dX9_copy_0 ?_
  refine AW_iload_n1 dX9_copy_1 ?_
  replace hf := rk_bd hf
  obtain ⟨q1, e1, hf⟩ := hf
  refine AW_iV1oz (w_X9_sheetAt (d := 0) hL e1) dX9_copy_2 kl_X9_286 (hL.1 0 (by decide)) rfl (Nat.le_trans (by decide) hd) (by decide) (Nat.le_of_ble_eq_true rfl) (fun _ => ?_)
  refine AW_astoreO_6 dX9_copy_5 (by decide) rfl ?_
  refine AW_aload_n0 dX9_copy_7 ?_
  refine AW_iload_n3 dX9_copy_8 ?_
  replace hf := rk_bd hf
  obtain ⟨q2, e2, hf⟩ := hf
  refine AW_iV1oz (w_X9_sheetAt (d := 0) hL e2) dX9_copy_9 kl_X9_286 (hL.1 0 (by decide)) rfl (Nat.le_trans (by decide) hd) (by decide) (Nat.le_of_ble_eq_true rfl) (fun _ => ?_)
  refine AW_astoreO_7 dX9_copy_12 (by decide) (rk_oneO _) ?_
  refine AW_aloadO_6 dX9_copy_14 ?_
  rcases q1 with _ | o1
  · replace hf := rk_oc_n hf
    refine AW_ifnullN 24 dX9_copy_16 (by decide) ?_
    refine AW_bipush (v := (-2)) dX9_copy_24 (by decide) ?_
    exact AW_iret dX9_copy_26 rfl (hq _ _ (Option.some.inj hf).symm)
  · replace hf := rk_oc_s hf
    refine AW_ifnull dX9_copy_16 ?_
    refine AW_aloadO_7 dX9_copy_19 ?_
    rcases q2 with _ | o2
    · replace hf := rk_oc_n hf
      refine AW_ifnonnullN dX9_copy_21 ?_
      refine AW_bipush (v := (-2)) dX9_copy_24 (by decide) ?_
      exact AW_iret dX9_copy_26 rfl (hq _ _ (Option.some.inj hf).symm)
    · replace hf := rk_oc_s hf
      refine AW_ifnonnull 27 dX9_copy_21 (by decide) ?_
      refine AW_aload_6 dX9_copy_27 ?_
      replace hf := rk_bd hf
      obtain ⟨_, e3, hf⟩ := hf
      have e3 := rk_ck_sp e3
      refine AW_getI dX9_copy_29 kf_X9_294 rfl e3 (by decide) ?_
      refine AW_iconst (v := (-1)) dX9_copy_32 (by decide) ?_
      refine AW_icmp_eq 45 dX9_copy_33 (by decide) (fun h1 => ?_) (fun h1 => ?_)
      · replace hf := rk_it hf h1
        refine AW_bipush (v := (-11)) dX9_copy_45 (by decide) ?_
        exact AW_iret dX9_copy_47 rfl (hq _ _ (Option.some.inj hf).symm)
      · replace hf := rk_if hf h1
        refine AW_aload_7 dX9_copy_36 ?_
        replace hf := rk_bd hf
        obtain ⟨_, e4, hf⟩ := hf
        have e4 := rk_ck_sp e4
        refine AW_getI dX9_copy_38 kf_X9_294 rfl e4 (by decide) ?_
        refine AW_iconst (v := (-1)) dX9_copy_41 (by decide) ?_
        refine AW_icmp_ne 48 dX9_copy_42 (by decide) (fun h2 => ?_) (fun h2 => ?_)
        · replace hf := rk_if hf h2
          refine AW_aload_6 dX9_copy_48 ?_
          refine AW_getI dX9_copy_50 kf_X9_294 rfl e3 (by decide) ?_
          refine AW_aload_7 dX9_copy_53 ?_
          refine AW_getI dX9_copy_55 kf_X9_294 rfl e4 (by decide) ?_
          refine AW_icmp_eq 64 dX9_copy_58 (by decide) (fun h3 => ?_) (fun h3 => ?_)
          · replace hf := rk_it hf h3
            refine AW_aload_6 dX9_copy_64 ?_
            refine AW_iload_n2 dX9_copy_66 ?_
            refine AW_iload_5 dX9_copy_67 ?_
            replace hf := rk_bd hf
            obtain ⟨x1, e5, hf⟩ := hf
            refine AW_iV2iz (w_X6_has (d := 0) e3 e5) dX9_copy_69 kl_X9_300 e3 rfl (Nat.le_trans (by decide) hd) (by decide) (Nat.le_of_ble_eq_true rfl) (fun _ => ?_)
            refine AW_if_eq 87 dX9_copy_72 (by decide) (fun h4 => ?_) (fun h4 => ?_)
            · replace hf := rk_it hf h4
              refine AW_bipush (v := (-12)) dX9_copy_87 (by decide) ?_
              exact AW_iret dX9_copy_89 rfl (hq _ _ (Option.some.inj hf).symm)
            · replace hf := rk_if hf h4
              refine AW_aload_7 dX9_copy_75 ?_
              refine AW_iload_4 dX9_copy_77 ?_
              refine AW_iload_5 dX9_copy_79 ?_
              replace hf := rk_bd hf
              obtain ⟨x2, e6, hf⟩ := hf
              refine AW_iV2iz (w_X6_has (d := 0) e4 e6) dX9_copy_81 kl_X9_300 e4 rfl (Nat.le_trans (by decide) hd) (by decide) (Nat.le_of_ble_eq_true rfl) (fun _ => ?_)
              refine AW_if_ne 90 dX9_copy_84 (by decide) (fun h5 => ?_) (fun h5 => ?_)
              · replace hf := rk_if hf h5
                refine AW_aload_6 dX9_copy_90 ?_
                replace hf := rk_bd hf
                obtain ⟨q3, e7, hf⟩ := hf
                refine AW_getQ dX9_copy_92 kf_X9_303 rfl e3 (by decide) e7 ?_
                refine AW_iload_n2 dX9_copy_95 ?_
                refine AW_aload_7 dX9_copy_96 ?_
                replace hf := rk_bd hf
                obtain ⟨q4, e8, hf⟩ := hf
                refine AW_getQ dX9_copy_98 kf_X9_303 rfl e4 (by decide) e8 ?_
                refine AW_iload_4 dX9_copy_101 ?_
                refine AW_iload_5 dX9_copy_103 ?_
                replace hf := rk_bd hf
                obtain ⟨o3, e9, hf⟩ := hf
                subst e9
                replace hf := rk_bd hf
                obtain ⟨o4, e10, hf⟩ := hf
                subst e10
                replace hf := rk_bd hf
                obtain ⟨N1, e11, hf⟩ := hf
                have e11 := rk_al_sp e11
                replace hf := rk_bd hf
                obtain ⟨N2, e12, hf⟩ := hf
                have e12 := rk_al_sp e12
                replace hf := rk_bd hf
                obtain ⟨I1, e13, hf⟩ := hf
                refine AW_copy dX9_copy_105 kp_X9_306 e11 e12 e13 (Nat.le_trans (by decide) hd) (Nat.le_of_ble_eq_true rfl) ?_
                refine AW_iload_5 dX9_copy_108 ?_
                exact AW_iret dX9_copy_110 rfl (hq _ _ (Option.some.inj hf).symm)
              · replace hf := rk_it hf h5
                refine AW_bipush (v := (-12)) dX9_copy_87 (by decide) ?_
                exact AW_iret dX9_copy_89 rfl (hq _ _ (Option.some.inj hf).symm)
          · replace hf := rk_if hf h3
            refine AW_bipush (v := (-13)) dX9_copy_61 (by decide) ?_
            exact AW_iret dX9_copy_63 rfl (hq _ _ (Option.some.inj hf).symm)
        · replace hf := rk_it hf h2
          refine AW_bipush (v := (-11)) dX9_copy_45 (by decide) ?_
          exact AW_iret dX9_copy_47 rfl (hq _ _ (Option.some.inj hf).symm)
theorem w_X9_copy {G : rk_G} {l : Launch} {d : Nat} {n : Nat} {S : rk_Sh} {I : rk_I} {J : rk_J} {R : rk_R} {a1 : Int32} {a2 : Int32} {a3 : Int32} {a4 : Int32} {a5 : Int32} {v8 : Int32} {I8 : rk_I} (hd : 1 ≤ d) (hL : rk_LC S R) (hf : f_X9_copy S I R a1 a2 a3 a4 a5 = some (v8, I8)) :
    CW G l yX9_copy cX9_copy 8 (some .int) d 0 0 [.ref 0, .int a1, .int a2, .int a3, .int a4, .int a5] n S I J R (rk_qi v8 n S I8 J R True) :=
  CW.of (by decide +kernel) (Nat.le_of_ble_eq_true rfl) (rk_sbs (rk_sbs (rk_sbs (rk_sbs (rk_sbs (rk_sbs (rk_sbe (rk_sbe rk_sb0)))))))) (b_X9_copy hd hL hf (fun v9 I9 h9 => by cases h9; exact ⟨rfl, rfl, rfl, rfl, rfl, rfl, trivial⟩))
noncomputable def f_X10_copy_j145 (I : rk_I) (u1 : Int32) (u2 : Int32) (u3 : Int32) (u4 : Int32) (u5 : Int32) (u6 : Int32) (j7 : Int32) (t0 : Int32) : Option ((Int32 × rk_I) ⊕ (Int32 × rk_I)) :=
(rk_rd I 56 160 (((40 * u1) + u2) + t0)).bind fun x1 =>
(rk_wr I 56 160 (((40 * u3) + u4) + t0) x1).bind fun I1 =>
some (.inl ((j7 + 1), I1))
theorem b_X10_copy_j145 {G : rk_G} {l : Launch} {d kc ks : Nat} {n : Nat} {S : rk_Sh} {I : rk_I} {J : rk_J} {R : rk_R} {Q : rk_Q} {u1 : Int32} {u2 : Int32} {u3 : Int32} {u4 : Int32} {u5 : Int32} {u6 : Int32} {j7 : Int32} {t0 : Int32} {r : (Int32 × rk_I) ⊕ (Int32 × rk_I)} (hd : 2 ≤ d) (hM : rk_LM S R) (hf : f_X10_copy_j145 I u1 u2 u3 u4 u5 u6 j7 t0 = some r) (hc : ∀ (w0 : Int32) (I9 : rk_I), r = .inl (w0, I9) → AW G l yX10_copy cX10_copy 9 (some .int) d kc ks 121 [some (.ref 31), some (.int u1), some (.int u2), some (.int u3), some (.int u4), some (.int u5), some (.int u6), some (.int w0), none] [] n S I9 J R Q) (he : ∀ (w0 : Int32) (I9 : rk_I), r = .inr (w0, I9) → AW G l yX10_copy cX10_copy 9 (some .int) d kc ks 182 [some (.ref 31), some (.int u1), some (.int u2), some (.int u3), some (.int u4), some (.int u5), some (.int u6), some (.int w0), none] [] n S I9 J R Q) :
    AW G l yX10_copy cX10_copy 9 (some .int) d kc ks 145 [some (.ref 31), some (.int u1), some (.int u2), some (.int u3), some (.int u4), some (.int u5), some (.int u6), some (.int j7), none] [.int t0] n S I J R Q := by
  unfold f_X10_copy_j145 at hf
  refine AW_istore_8 dX10_copy_145 (by decide) rfl ?_
  refine AW_aload_n0 dX10_copy_147 ?_
  refine AW_getR dX10_copy_148 kf_X10_87 rfl (hM.1 31 (by decide) (by decide)) (by decide) (hM.2 31 45 56 rfl) ?_
  refine AW_bipush (v := 40) dX10_copy_151 (by decide) ?_
  refine AW_iload_n3 dX10_copy_153 ?_
  refine AW_imul dX10_copy_154 ?_
  refine AW_iload_4 dX10_copy_155 ?_
  refine AW_iadd dX10_copy_157 ?_
  refine AW_iload_8 dX10_copy_158 ?_
  refine AW_iadd dX10_copy_160 ?_
  refine AW_aload_n0 dX10_copy_161 ?_
  refine AW_getR dX10_copy_162 kf_X10_87 rfl (hM.1 31 (by decide) (by decide)) (by decide) (hM.2 31 45 56 rfl) ?_
  refine AW_bipush (v := 40) dX10_copy_165 (by decide) ?_
  refine AW_iload_n1 dX10_copy_167 ?_
  refine AW_imul dX10_copy_168 ?_
  refine AW_iload_n2 dX10_copy_169 ?_
  refine AW_iadd dX10_copy_170 ?_
  refine AW_iload_8 dX10_copy_171 ?_
  refine AW_iadd dX10_copy_173 ?_
  replace hf := rk_bd hf
  obtain ⟨x1, e1, hf⟩ := hf
  refine AW_rd dX10_copy_174 (hM.1 56 (by decide) (by decide)) e1 ?_
  replace hf := rk_bd hf
  obtain ⟨I1, e2, hf⟩ := hf
  refine AW_wr dX10_copy_175 (hM.1 56 (by decide) (by decide)) e2 ?_
  refine AW_iinc_7 (v := 1) dX10_copy_176 (by decide) (by decide) rfl ?_
  refine AW_goto 121 dX10_copy_179 (by decide) ?_
  refine AW_sb (rk_sbs (rk_sbs (rk_sbs (rk_sbs (rk_sbs (rk_sbs (rk_sbs (rk_sbs (rk_sbn rk_sb0))))))))) ?_
  exact hc _ _ (Option.some.inj hf).symm
noncomputable def f_X10_copy_l121 (I : rk_I) (u1 : Int32) (u2 : Int32) (u3 : Int32) (u4 : Int32) (u5 : Int32) (u6 : Int32) (s7 : Int32) : Option ((Int32 × rk_I) ⊕ (Int32 × rk_I)) :=
if u5 ≤ s7 then (
some (.inr (s7, I))) else (
if u6 = 0 then (
f_X10_copy_j145 I u1 u2 u3 u4 u5 u6 s7 s7) else (
f_X10_copy_j145 I u1 u2 u3 u4 u5 u6 s7 ((u5 - 1) - s7)))
theorem b_X10_copy_l121 {G : rk_G} {l : Launch} {d kc ks : Nat} {n : Nat} {S : rk_Sh} {I : rk_I} {J : rk_J} {R : rk_R} {Q : rk_Q} {u1 : Int32} {u2 : Int32} {u3 : Int32} {u4 : Int32} {u5 : Int32} {u6 : Int32} {s7 : Int32} {r : (Int32 × rk_I) ⊕ (Int32 × rk_I)} (hd : 2 ≤ d) (hM : rk_LM S R) (hf : f_X10_copy_l121 I u1 u2 u3 u4 u5 u6 s7 = some r) (hc : ∀ (w0 : Int32) (I9 : rk_I), r = .inl (w0, I9) → AW G l yX10_copy cX10_copy 9 (some .int) d kc ks 121 [some (.ref 31), some (.int u1), some (.int u2), some (.int u3), some (.int u4), some (.int u5), some (.int u6), some (.int w0), none] [] n S I9 J R Q) (he : ∀ (w0 : Int32) (I9 : rk_I), r = .inr (w0, I9) → AW G l yX10_copy cX10_copy 9 (some .int) d kc ks 182 [some (.ref 31), some (.int u1), some (.int u2), some (.int u3), some (.int u4), some (.int u5), some (.int u6), some (.int w0), none] [] n S I9 J R Q) :
    AW G l yX10_copy cX10_copy 9 (some .int) d kc ks 121 [some (.ref 31), some (.int u1), some (.int u2), some (.int u3), some (.int u4), some (.int u5), some (.int u6), some (.int s7), none] [] n S I J R Q := by
  unfold f_X10_copy_l121 at hf
  refine AW_iload_7 dX10_copy_121 ?_
  refine AW_iload_5 dX10_copy_123 ?_
  refine AW_icmp_ge 182 dX10_copy_125 (by decide) (fun h1 => ?_) (fun h1 => ?_)
  · replace hf := rk_it hf h1
    refine AW_sb (rk_sbs (rk_sbs (rk_sbs (rk_sbs (rk_sbs (rk_sbs (rk_sbs (rk_sbs (rk_sbn rk_sb0))))))))) ?_
    exact he _ _ (Option.some.inj hf).symm
  · replace hf := rk_if hf h1
    refine AW_iload_6 dX10_copy_128 ?_
    refine AW_if_eq 143 dX10_copy_130 (by decide) (fun h2 => ?_) (fun h2 => ?_)
    · replace hf := rk_it hf h2
      refine AW_iload_7 dX10_copy_143 ?_
      refine AW_sb (rk_sbs (rk_sbs (rk_sbs (rk_sbs (rk_sbs (rk_sbs (rk_sbs (rk_sbs (rk_sbn rk_sb0))))))))) ?_
      exact b_X10_copy_j145 (Nat.le_trans (by decide) hd) hM hf hc he
    · replace hf := rk_if hf h2
      refine AW_iload_5 dX10_copy_133 ?_
      refine AW_iconst (v := 1) dX10_copy_135 (by decide) ?_
      refine AW_isub dX10_copy_136 ?_
      refine AW_iload_7 dX10_copy_137 ?_
      refine AW_isub dX10_copy_139 ?_
      refine AW_goto 145 dX10_copy_140 (by decide) ?_
      refine AW_sb (rk_sbs (rk_sbs (rk_sbs (rk_sbs (rk_sbs (rk_sbs (rk_sbs (rk_sbs (rk_sbn rk_sb0))))))))) ?_
      exact b_X10_copy_j145 (Nat.le_trans (by decide) hd) hM hf hc he
theorem L_X10_copy_w121 {G : rk_G} {l : Launch} {d kc ks : Nat} {n : Nat} {S : rk_Sh} {J : rk_J} {R : rk_R} {Q : rk_Q} {u1 : Int32} {u2 : Int32} {u3 : Int32} {u4 : Int32} {u5 : Int32} {u6 : Int32} {r : Int32 × rk_I} (hd : 2 ≤ d) (hM : rk_LM S R) (he : ∀ (w0 : Int32) (I9 : rk_I), r = (w0, I9) → AW G l yX10_copy cX10_copy 9 (some .int) d kc ks 182 [some (.ref 31), some (.int u1), some (.int u2), some (.int u3), some (.int u4), some (.int u5), some (.int u6), some (.int w0), none] [] n S I9 J R Q) :
    ∀ (m9 : Nat) (s7 : Int32) (I : rk_I), rk_loop (fun a9 => f_X10_copy_l121 a9.2 u1 u2 u3 u4 u5 u6 a9.1) m9 (s7, I) = some r → AW G l yX10_copy cX10_copy 9 (some .int) d kc ks 121 [some (.ref 31), some (.int u1), some (.int u2), some (.int u3), some (.int u4), some (.int u5), some (.int u6), some (.int s7), none] [] n S I J R Q := by
  intro m9
  induction m9 with
  | zero => intro s7 I hf; cases hf
  | succ m9 ih =>
    intro s7 I hf 
    obtain ⟨r9, hf, hr⟩ := rk_loop_s hf
    exact b_X10_copy_l121 hd hM hf (fun _ _ h9 => by subst h9; exact ih _ _ hr) (fun _ _ h9 => by subst h9; exact he _ _ hr.symm)
noncomputable def f_X10_copy_j116 (I : rk_I) (j1 : Int32) (j2 : Int32) (j3 : Int32) (j4 : Int32) (j5 : Int32) (t0 : Int32) : Option (Int32 × rk_I) :=
rk_b2 (rk_while (fun a9 => f_X10_copy_l121 a9.2 j1 j2 j3 j4 j5 t0 a9.1) (0, I)) fun x1 I1 =>
some (j5, I1)
theorem b_X10_copy_j116 {G : rk_G} {l : Launch} {d kc ks : Nat} {n : Nat} {S : rk_Sh} {I : rk_I} {J : rk_J} {R : rk_R} {Q : rk_Q} {j1 : Int32} {j2 : Int32} {j3 : Int32} {j4 : Int32} {j5 : Int32} {t0 : Int32} {r : Int32 × rk_I} (hd : 2 ≤ d) (hM : rk_LM S R) (hf : f_X10_copy_j116 I j1 j2 j3 j4 j5 t0 = some r) (hq : ∀ (v9 : Int32) (I9 : rk_I), r = (v9, I9) → Q (some (.int v9)) n S I9 J R) :
    AW G l yX10_copy cX10_copy 9 (some .int) d kc ks 116 [some (.ref 31), some (.int j1), some (.int j2), some (.int j3), some (.int j4), some (.int j5), none, none, none] [.int t0] n S I J R Q := by
  unfold f_X10_copy_j116 at hf
  refine AW_istore_6 dX10_copy_116 (by decide) rfl ?_
  refine AW_iconst (v := 0) dX10_copy_118 (by decide) ?_
  refine AW_istore_7 dX10_copy_119 (by decide) rfl ?_
  refine AW_sb (rk_sbs (rk_sbs (rk_sbs (rk_sbs (rk_sbs (rk_sbs (rk_sbs (rk_sbs (rk_sbn rk_sb0))))))))) ?_
  replace hf := rk_bd2 hf
  obtain ⟨x1, I1, e1, hf⟩ := hf
  obtain ⟨m1, e1⟩ := rk_while_sp e1
  refine L_X10_copy_w121 (Nat.le_trans (by decide) hd) hM ?_ m1 _ _ e1
  intro x1 I1 h9
  cases h9
  refine AW_iload_5 dX10_copy_182 ?_
  exact AW_iret dX10_copy_184 rfl (hq _ _ (Option.some.inj hf).symm)
noncomputable def f_X10_copy_j115 (I : rk_I) (j1 : Int32) (j2 : Int32) (j3 : Int32) (j4 : Int32) (j5 : Int32) : Option (Int32 × rk_I) :=
f_X10_copy_j116 I j1 j2 j3 j4 j5 0
theorem b_X10_copy_j115 {G : rk_G} {l : Launch} {d kc ks : Nat} {n : Nat} {S : rk_Sh} {I : rk_I} {J : rk_J} {R : rk_R} {Q : rk_Q} {j1 : Int32} {j2 : Int32} {j3 : Int32} {j4 : Int32} {j5 : Int32} {r : Int32 × rk_I} (hd : 2 ≤ d) (hM : rk_LM S R) (hf : f_X10_copy_j115 I j1 j2 j3 j4 j5 = some r) (hq : ∀ (v9 : Int32) (I9 : rk_I), r = (v9, I9) → Q (some (.int v9)) n S I9 J R) :
    AW G l yX10_copy cX10_copy 9 (some .int) d kc ks 115 [some (.ref 31), some (.int j1), some (.int j2), some (.int j3), some (.int j4), some (.int j5), none, none, none] [] n S I J R Q := by
  unfold f_X10_copy_j115 at hf
  refine AW_iconst (v := 0) dX10_copy_115 (by decide) ?_
  refine AW_sb (rk_sbs (rk_sbs (rk_sbs (rk_sbs (rk_sbs (rk_sbs (rk_sbn (rk_sbn (rk_sbn rk_sb0))))))))) ?_
  exact b_X10_copy_j116 (Nat.le_trans (by decide) hd) hM hf hq
noncomputable def f_X10_copy (I : rk_I) (a1 : Int32) (a2 : Int32) (a3 : Int32) (a4 : Int32) (a5 : Int32) : Option (Int32 × rk_I) :=
(f_X10_isSheet a1).bind fun x1 =>
if x1 = 0 then (
some ((-2), I)) else (
(f_X10_isSheet a3).bind fun x2 =>
if x2 = 0 then (
some ((-2), I)) else (
(rk_rd I 53 4 a1).bind fun x3 =>
if x3 = 0 then (
some ((-11), I)) else (
(rk_rd I 53 4 a3).bind fun x4 =>
if x4 = 0 then (
some ((-11), I)) else (
(rk_rd I 54 4 a1).bind fun x5 =>
(rk_rd I 54 4 a3).bind fun x6 =>
if x5 = x6 then (
if a5 < 0 then (
some ((-12), I)) else (
if a2 < 0 then (
some ((-12), I)) else (
if a4 < 0 then (
some ((-12), I)) else (
(rk_rd I 55 4 a1).bind fun x7 =>
if (x7 - a5) < a2 then (
some ((-12), I)) else (
(rk_rd I 55 4 a3).bind fun x8 =>
if a4 ≤ (x8 - a5) then (
if a1 = a3 then (
if a4 ≤ a2 then (
f_X10_copy_j115 I a1 a2 a3 a4 a5) else (
f_X10_copy_j116 I a1 a2 a3 a4 a5 1)) else (
f_X10_copy_j115 I a1 a2 a3 a4 a5)) else (
some ((-12), I))))))) else (
some ((-13), I))))))
theorem b_X10_copy {G : rk_G} {l : Launch} {d kc ks : Nat} {n : Nat} {S : rk_Sh} {I : rk_I} {J : rk_J} {R : rk_R} {Q : rk_Q} {a1 : Int32} {a2 : Int32} {a3 : Int32} {a4 : Int32} {a5 : Int32} {r : Int32 × rk_I} (hd : 2 ≤ d) (hM : rk_LM S R) (hf : f_X10_copy I a1 a2 a3 a4 a5 = some r) (hq : ∀ (v9 : Int32) (I9 : rk_I), r = (v9, I9) → Q (some (.int v9)) n S I9 J R) :
    AW G l yX10_copy cX10_copy 9 (some .int) d kc ks 0 [some (.ref 31), some (.int a1), some (.int a2), some (.int a3), some (.int a4), some (.int a5), none, none, none] [] n S I J R Q := by
  unfold f_X10_copy at hf
  refine AW_iload_n1 dX10_copy_0 ?_
  replace hf := rk_bd hf
  obtain ⟨x1, e1, hf⟩ := hf
  refine AW_iS1iz (w_X10_isSheet (d := 1) (Nat.le_refl _) e1) dX10_copy_1 kl_X10_370 (Nat.le_trans (by decide) hd) (by decide) (Nat.le_of_ble_eq_true rfl) (fun _ => ?_)
  refine AW_if_eq 14 dX10_copy_4 (by decide) (fun h1 => ?_) (fun h1 => ?_)
  · replace hf := rk_it hf h1
    refine AW_bipush (v := (-2)) dX10_copy_14 (by decide) ?_
    exact AW_iret dX10_copy_16 rfl (hq _ _ (Option.some.inj hf).symm)
  · replace hf := rk_if hf h1
    refine AW_iload_n3 dX10_copy_7 ?_
    replace hf := rk_bd hf
    obtain ⟨x2, e2, hf⟩ := hf
    refine AW_iS1iz (w_X10_isSheet (d := 1) (Nat.le_refl _) e2) dX10_copy_8 kl_X10_370 (Nat.le_trans (by decide) hd) (by decide) (Nat.le_of_ble_eq_true rfl) (fun _ => ?_)
    refine AW_if_ne 17 dX10_copy_11 (by decide) (fun h2 => ?_) (fun h2 => ?_)
    · replace hf := rk_if hf h2
      refine AW_aload_n0 dX10_copy_17 ?_
      refine AW_getR dX10_copy_18 kf_X10_77 rfl (hM.1 31 (by decide) (by decide)) (by decide) (hM.2 31 42 53 rfl) ?_
      refine AW_iload_n1 dX10_copy_21 ?_
      replace hf := rk_bd hf
      obtain ⟨x3, e3, hf⟩ := hf
      refine AW_rdz dX10_copy_22 (hM.1 53 (by decide) (by decide)) e3 ?_
      refine AW_if_eq 35 dX10_copy_23 (by decide) (fun h3 => ?_) (fun h3 => ?_)
      · replace hf := rk_it hf h3
        refine AW_bipush (v := (-11)) dX10_copy_35 (by decide) ?_
        exact AW_iret dX10_copy_37 rfl (hq _ _ (Option.some.inj hf).symm)
      · replace hf := rk_if hf h3
        refine AW_aload_n0 dX10_copy_26 ?_
        refine AW_getR dX10_copy_27 kf_X10_77 rfl (hM.1 31 (by decide) (by decide)) (by decide) (hM.2 31 42 53 rfl) ?_
        refine AW_iload_n3 dX10_copy_30 ?_
        replace hf := rk_bd hf
        obtain ⟨x4, e4, hf⟩ := hf
        refine AW_rdz dX10_copy_31 (hM.1 53 (by decide) (by decide)) e4 ?_
        refine AW_if_ne 38 dX10_copy_32 (by decide) (fun h4 => ?_) (fun h4 => ?_)
        · replace hf := rk_if hf h4
          refine AW_aload_n0 dX10_copy_38 ?_
          refine AW_getR dX10_copy_39 kf_X10_81 rfl (hM.1 31 (by decide) (by decide)) (by decide) (hM.2 31 43 54 rfl) ?_
          refine AW_iload_n1 dX10_copy_42 ?_
          replace hf := rk_bd hf
          obtain ⟨x5, e5, hf⟩ := hf
          refine AW_rd dX10_copy_43 (hM.1 54 (by decide) (by decide)) e5 ?_
          refine AW_aload_n0 dX10_copy_44 ?_
          refine AW_getR dX10_copy_45 kf_X10_81 rfl (hM.1 31 (by decide) (by decide)) (by decide) (hM.2 31 43 54 rfl) ?_
          refine AW_iload_n3 dX10_copy_48 ?_
          replace hf := rk_bd hf
          obtain ⟨x6, e6, hf⟩ := hf
          refine AW_rd dX10_copy_49 (hM.1 54 (by decide) (by decide)) e6 ?_
          refine AW_icmp_eq 56 dX10_copy_50 (by decide) (fun h5 => ?_) (fun h5 => ?_)
          · replace hf := rk_it hf h5
            refine AW_iload_5 dX10_copy_56 ?_
            refine AW_if_lt 97 dX10_copy_58 (by decide) (fun h6 => ?_) (fun h6 => ?_)
            · replace hf := rk_it hf h6
              refine AW_bipush (v := (-12)) dX10_copy_97 (by decide) ?_
              exact AW_iret dX10_copy_99 rfl (hq _ _ (Option.some.inj hf).symm)
            · replace hf := rk_if hf h6
              refine AW_iload_n2 dX10_copy_61 ?_
              refine AW_if_lt 97 dX10_copy_62 (by decide) (fun h7 => ?_) (fun h7 => ?_)
              · replace hf := rk_it hf h7
                refine AW_bipush (v := (-12)) dX10_copy_97 (by decide) ?_
                exact AW_iret dX10_copy_99 rfl (hq _ _ (Option.some.inj hf).symm)
              · replace hf := rk_if hf h7
                refine AW_iload_4 dX10_copy_65 ?_
                refine AW_if_lt 97 dX10_copy_67 (by decide) (fun h8 => ?_) (fun h8 => ?_)
                · replace hf := rk_it hf h8
                  refine AW_bipush (v := (-12)) dX10_copy_97 (by decide) ?_
                  exact AW_iret dX10_copy_99 rfl (hq _ _ (Option.some.inj hf).symm)
                · replace hf := rk_if hf h8
                  refine AW_iload_n2 dX10_copy_70 ?_
                  refine AW_aload_n0 dX10_copy_71 ?_
                  refine AW_getR dX10_copy_72 kf_X10_84 rfl (hM.1 31 (by decide) (by decide)) (by decide) (hM.2 31 44 55 rfl) ?_
                  refine AW_iload_n1 dX10_copy_75 ?_
                  replace hf := rk_bd hf
                  obtain ⟨x7, e7, hf⟩ := hf
                  refine AW_rd dX10_copy_76 (hM.1 55 (by decide) (by decide)) e7 ?_
                  refine AW_iload_5 dX10_copy_77 ?_
                  refine AW_isub dX10_copy_79 ?_
                  refine AW_icmp_gt 97 dX10_copy_80 (by decide) (fun h9 => ?_) (fun h9 => ?_)
                  · replace hf := rk_it hf h9
                    refine AW_bipush (v := (-12)) dX10_copy_97 (by decide) ?_
                    exact AW_iret dX10_copy_99 rfl (hq _ _ (Option.some.inj hf).symm)
                  · replace hf := rk_if hf h9
                    refine AW_iload_4 dX10_copy_83 ?_
                    refine AW_aload_n0 dX10_copy_85 ?_
                    refine AW_getR dX10_copy_86 kf_X10_84 rfl (hM.1 31 (by decide) (by decide)) (by decide) (hM.2 31 44 55 rfl) ?_
                    refine AW_iload_n3 dX10_copy_89 ?_
                    replace hf := rk_bd hf
                    obtain ⟨x8, e8, hf⟩ := hf
                    refine AW_rd dX10_copy_90 (hM.1 55 (by decide) (by decide)) e8 ?_
                    refine AW_iload_5 dX10_copy_91 ?_
                    refine AW_isub dX10_copy_93 ?_
                    refine AW_icmp_le 100 dX10_copy_94 (by decide) (fun h10 => ?_) (fun h10 => ?_)
                    · replace hf := rk_it hf h10
                      refine AW_iload_n1 dX10_copy_100 ?_
                      refine AW_iload_n3 dX10_copy_101 ?_
                      refine AW_icmp_ne 115 dX10_copy_102 (by decide) (fun h11 => ?_) (fun h11 => ?_)
                      · replace hf := rk_if hf h11
                        refine AW_sb (rk_sbs (rk_sbs (rk_sbs (rk_sbs (rk_sbs (rk_sbs (rk_sbn (rk_sbn (rk_sbn rk_sb0))))))))) ?_
                        exact b_X10_copy_j115 (Nat.le_trans (by decide) hd) hM hf hq
                      · replace hf := rk_it hf h11
                        refine AW_iload_n2 dX10_copy_105 ?_
                        refine AW_iload_4 dX10_copy_106 ?_
                        refine AW_icmp_ge 115 dX10_copy_108 (by decide) (fun h12 => ?_) (fun h12 => ?_)
                        · replace hf := rk_it hf h12
                          refine AW_sb (rk_sbs (rk_sbs (rk_sbs (rk_sbs (rk_sbs (rk_sbs (rk_sbn (rk_sbn (rk_sbn rk_sb0))))))))) ?_
                          exact b_X10_copy_j115 (Nat.le_trans (by decide) hd) hM hf hq
                        · replace hf := rk_if hf h12
                          refine AW_iconst (v := 1) dX10_copy_111 (by decide) ?_
                          refine AW_goto 116 dX10_copy_112 (by decide) ?_
                          refine AW_sb (rk_sbs (rk_sbs (rk_sbs (rk_sbs (rk_sbs (rk_sbs (rk_sbn (rk_sbn (rk_sbn rk_sb0))))))))) ?_
                          exact b_X10_copy_j116 (Nat.le_trans (by decide) hd) hM hf hq
                    · replace hf := rk_if hf h10
                      refine AW_bipush (v := (-12)) dX10_copy_97 (by decide) ?_
                      exact AW_iret dX10_copy_99 rfl (hq _ _ (Option.some.inj hf).symm)
          · replace hf := rk_if hf h5
            refine AW_bipush (v := (-13)) dX10_copy_53 (by decide) ?_
            exact AW_iret dX10_copy_55 rfl (hq _ _ (Option.some.inj hf).symm)
        · replace hf := rk_it hf h4
          refine AW_bipush (v := (-11)) dX10_copy_35 (by decide) ?_
          exact AW_iret dX10_copy_37 rfl (hq _ _ (Option.some.inj hf).symm)
    · replace hf := rk_it hf h2
      refine AW_bipush (v := (-2)) dX10_copy_14 (by decide) ?_
      exact AW_iret dX10_copy_16 rfl (hq _ _ (Option.some.inj hf).symm)
theorem w_X10_copy {G : rk_G} {l : Launch} {d : Nat} {n : Nat} {S : rk_Sh} {I : rk_I} {J : rk_J} {R : rk_R} {a1 : Int32} {a2 : Int32} {a3 : Int32} {a4 : Int32} {a5 : Int32} {v8 : Int32} {I8 : rk_I} (hd : 2 ≤ d) (hM : rk_LM S R) (hf : f_X10_copy I a1 a2 a3 a4 a5 = some (v8, I8)) :
    CW G l yX10_copy cX10_copy 9 (some .int) d 0 0 [.ref 31, .int a1, .int a2, .int a3, .int a4, .int a5] n S I J R (rk_qi v8 n S I8 J R True) :=
  CW.of (by decide +kernel) (Nat.le_of_ble_eq_true rfl) (rk_sbs (rk_sbs (rk_sbs (rk_sbs (rk_sbs (rk_sbs (rk_sbe (rk_sbe (rk_sbe rk_sb0))))))))) (b_X10_copy hd hM hf (fun v9 I9 h9 => by cases h9; exact ⟨rfl, rfl, rfl, rfl, rfl, rfl, trivial⟩))
