noncomputable def f_X10_owes (I : rk_I) (J : rk_J) (a1 : Int32) (a2 : Int32) : Option (Int64 × rk_I × rk_J) :=
(f_X10_isSale I a1).bind fun x1 =>
if x1 = 0 then (
some ((-4611686018427387904), I, J)) else (
(f_X10_isHour a2).bind fun x2 =>
if x2 = 0 then (
some ((-4611686018427387904), I, J)) else (
rk_b3 (f_X10_owesOf I J a1 a2) fun x3 I1 J1 =>
some (x3, I1, J1)))
theorem b_X10_owes {G : rk_G} {l : Launch} {d kc ks : Nat} {n : Nat} {S : rk_Sh} {I : rk_I} {J : rk_J} {R : rk_R} {Q : rk_Q} {a1 : Int32} {a2 : Int32} {r : Int64 × rk_I × rk_J} (hd : 68 ≤ d) (hM : rk_LM S R) (hf : f_X10_owes I J a1 a2 = some r) (hq : ∀ (v9 : Int64) (I9 : rk_I) (J9 : rk_J), r = (v9, I9, J9) → Q (some (.long v9)) n S I9 J9 R) :
    AW G l yX10_owes cX10_owes 3 (some .long) d kc ks 0 [some (.ref 31), some (.int a1), some (.int a2)] [] n S I J R Q := by
  unfold f_X10_owes at hf
  refine AW_aload_n0 dX10_owes_0 ?_
  refine AW_iload_n1 dX10_owes_1 ?_
  replace hf := rk_bd hf
  obtain ⟨x1, e1, hf⟩ := hf
  refine AW_iV1iz (w_X10_isSale (d := 1) (Nat.le_refl _) hM e1) dX10_owes_2 kl_X10_141 (hM.1 31 (by decide) (by decide)) rfl (Nat.le_trans (by decide) hd) (by decide) (Nat.le_of_ble_eq_true rfl) (fun _ => ?_)
  refine AW_if_eq 24 dX10_owes_5 (by decide) (fun h1 => ?_) (fun h1 => ?_)
  · replace hf := rk_it hf h1
    refine AW_ldc2 dX10_owes_24 kv_X10_168 ?_
    exact AW_lret dX10_owes_27 rfl (hq _ _ _ (Option.some.inj hf).symm)
  · replace hf := rk_if hf h1
    refine AW_iload_n2 dX10_owes_8 ?_
    replace hf := rk_bd hf
    obtain ⟨x2, e2, hf⟩ := hf
    refine AW_iS1iz (w_X10_isHour (d := 1) (Nat.le_refl _) e2) dX10_owes_9 kl_X10_138 (Nat.le_trans (by decide) hd) (by decide) (Nat.le_of_ble_eq_true rfl) (fun _ => ?_)
    refine AW_if_eq 24 dX10_owes_12 (by decide) (fun h2 => ?_) (fun h2 => ?_)
    · replace hf := rk_it hf h2
      refine AW_ldc2 dX10_owes_24 kv_X10_168 ?_
      exact AW_lret dX10_owes_27 rfl (hq _ _ _ (Option.some.inj hf).symm)
    · replace hf := rk_if hf h2
      refine AW_aload_n0 dX10_owes_15 ?_
      refine AW_iload_n1 dX10_owes_16 ?_
      refine AW_iload_n2 dX10_owes_17 ?_
      replace hf := rk_bd3 hf
      obtain ⟨x3, I1, J1, e3, hf⟩ := hf
      refine AW_iV2lz (w_X10_owesOf (d := 67) (Nat.le_refl _) hM e3) dX10_owes_18 kl_X10_316 (hM.1 31 (by decide) (by decide)) rfl (Nat.le_trans (by decide) hd) (by decide) (Nat.le_of_ble_eq_true rfl) (fun _ => ?_)
      refine AW_goto 27 dX10_owes_21 (by decide) ?_
      exact AW_lret dX10_owes_27 rfl (hq _ _ _ (Option.some.inj hf).symm)
theorem w_X10_owes {G : rk_G} {l : Launch} {d : Nat} {n : Nat} {S : rk_Sh} {I : rk_I} {J : rk_J} {R : rk_R} {a1 : Int32} {a2 : Int32} {v8 : Int64} {I8 : rk_I} {J8 : rk_J} (hd : 68 ≤ d) (hM : rk_LM S R) (hf : f_X10_owes I J a1 a2 = some (v8, I8, J8)) :
    CW G l yX10_owes cX10_owes 3 (some .long) d 0 0 [.ref 31, .int a1, .int a2] n S I J R (rk_ql v8 n S I8 J8 R True) :=
  CW.of (by decide +kernel) (Nat.le_of_ble_eq_true rfl) (rk_sbs (rk_sbs (rk_sbs rk_sb0))) (b_X10_owes hd hM hf (fun v9 I9 J9 h9 => by cases h9; exact ⟨rfl, rfl, rfl, rfl, rfl, rfl, trivial⟩))
noncomputable def f_X9_balance_l23 (S : rk_Sh) (I : rk_I) (R : rk_R) (u1 : Int32) (u2 : Int32) (s3 : Int64) (s5 : Int32) : Option ((Int64 × Int32 × rk_I) ⊕ (Int64 × Int32 × rk_I)) :=
if (I 0 3) ≤ s5 then (
some (.inr (s3, s5, I))) else (
(rk_rdR R 2 24 s5).bind fun q1 =>
(rk_dr S 5 11 q1).bind fun o1 =>
if (I o1 2) = u1 then (
rk_b2 (f_X9_owedFor S I R o1 u2) fun x2 I2 =>
some (.inl ((s3 + x2), (s5 + 1), I2))) else (
if (I o1 3) = u1 then (
rk_b2 (f_X9_owedFor S I R o1 u2) fun x1 I1 =>
some (.inl ((s3 - x1), (s5 + 1), I1))) else (
some (.inl (s3, (s5 + 1), I)))))
theorem b_X9_balance_l23 {G : rk_G} {l : Launch} {d kc ks : Nat} {n : Nat} {S : rk_Sh} {I : rk_I} {J : rk_J} {R : rk_R} {Q : rk_Q} {u1 : Int32} {u2 : Int32} {s3 : Int64} {s5 : Int32} {r : (Int64 × Int32 × rk_I) ⊕ (Int64 × Int32 × rk_I)} (hd : 6 ≤ d) (hL : rk_LC S R) (hf : f_X9_balance_l23 S I R u1 u2 s3 s5 = some r) (hc : ∀ (w0 : Int64) (w1 : Int32) (I9 : rk_I), r = .inl (w0, w1, I9) → AW G l yX9_balance cX9_balance 7 (some .long) d kc ks 23 [some (.ref 0), some (.int u1), some (.int u2), some (.long w0), none, some (.int w1), none] [] n S I9 J R Q) (he : ∀ (w0 : Int64) (w1 : Int32) (I9 : rk_I), r = .inr (w0, w1, I9) → AW G l yX9_balance cX9_balance 7 (some .long) d kc ks 88 [some (.ref 0), some (.int u1), some (.int u2), some (.long w0), none, some (.int w1), none] [] n S I9 J R Q) :
    AW G l yX9_balance cX9_balance 7 (some .long) d kc ks 23 [some (.ref 0), some (.int u1), some (.int u2), some (.long s3), none, some (.int s5), none] [] n S I J R Q := by
  unfold f_X9_balance_l23 at hf
  refine AW_iload_5 dX9_balance_23 ?_
  refine AW_aload_n0 dX9_balance_25 ?_
  refine AW_getI dX9_balance_26 kf_X9_125 rfl (hL.1 0 (by decide)) (by decide) ?_
  refine AW_icmp_ge 88 dX9_balance_29 (by decide) (fun h1 => ?_) (fun h1 => ?_)
  · replace hf := rk_it hf h1
    refine AW_sb (rk_sbs (rk_sbs (rk_sbs (rk_sbs (rk_sbn (rk_sbs (rk_sbn rk_sb0))))))) ?_
    exact he _ _ _ (Option.some.inj hf).symm
  · replace hf := rk_if hf h1
    refine AW_aload_n0 dX9_balance_32 ?_
    refine AW_getR dX9_balance_33 kf_X9_17 rfl (hL.1 0 (by decide)) (by decide) (hL.2 0 2 2 rfl) ?_
    refine AW_iload_5 dX9_balance_36 ?_
    replace hf := rk_bd hf
    obtain ⟨q1, e1, hf⟩ := hf
    refine AW_rdR dX9_balance_38 (hL.1 2 (by decide)) (by decide) e1 ?_
    refine AW_astoreO_6 dX9_balance_39 (by decide) rfl ?_
    refine AW_aloadO_6 dX9_balance_41 ?_
    replace hf := rk_bd hf
    obtain ⟨o1, e2, hf⟩ := hf
    obtain ⟨e2, hS1⟩ := rk_dr_sp e2
    subst e2
    refine AW_getI dX9_balance_43 kf_X9_202 rfl hS1 (by decide) ?_
    refine AW_iload_n1 dX9_balance_46 ?_
    refine AW_icmp_ne 63 dX9_balance_47 (by decide) (fun h2 => ?_) (fun h2 => ?_)
    · replace hf := rk_if hf h2
      refine AW_aload_6 dX9_balance_63 ?_
      refine AW_getI dX9_balance_65 kf_X9_205 rfl hS1 (by decide) ?_
      refine AW_iload_n1 dX9_balance_68 ?_
      refine AW_icmp_ne 82 dX9_balance_69 (by decide) (fun h3 => ?_) (fun h3 => ?_)
      · replace hf := rk_if hf h3
        refine AW_iinc_5 (v := 1) dX9_balance_82 (by decide) (by decide) rfl ?_
        refine AW_goto 23 dX9_balance_85 (by decide) ?_
        refine AW_sb (rk_sbs (rk_sbs (rk_sbs (rk_sbs (rk_sbn (rk_sbs (rk_sbn rk_sb0))))))) ?_
        exact hc _ _ _ (Option.some.inj hf).symm
      · replace hf := rk_it hf h3
        refine AW_lload_n3 dX9_balance_72 ?_
        refine AW_aload_n0 dX9_balance_73 ?_
        refine AW_aload_6 dX9_balance_74 ?_
        refine AW_iload_n2 dX9_balance_76 ?_
        replace hf := rk_bd2 hf
        obtain ⟨x1, I1, e3, hf⟩ := hf
        refine AW_iV2lz (w_X9_owedFor (d := 5) (Nat.le_refl _) hS1 hL e3) dX9_balance_77 kl_X9_198 (hL.1 0 (by decide)) rfl (Nat.le_trans (by decide) hd) (by decide) (Nat.le_of_ble_eq_true rfl) (fun _ => ?_)
        refine AW_lsub dX9_balance_80 ?_
        refine AW_lstore_n3 dX9_balance_81 (by decide) rfl ?_
        refine AW_iinc_5 (v := 1) dX9_balance_82 (by decide) (by decide) rfl ?_
        refine AW_goto 23 dX9_balance_85 (by decide) ?_
        refine AW_sb (rk_sbs (rk_sbs (rk_sbs (rk_sbs (rk_sbn (rk_sbs (rk_sbn rk_sb0))))))) ?_
        exact hc _ _ _ (Option.some.inj hf).symm
    · replace hf := rk_it hf h2
      refine AW_lload_n3 dX9_balance_50 ?_
      refine AW_aload_n0 dX9_balance_51 ?_
      refine AW_aload_6 dX9_balance_52 ?_
      refine AW_iload_n2 dX9_balance_54 ?_
      replace hf := rk_bd2 hf
      obtain ⟨x2, I2, e4, hf⟩ := hf
      refine AW_iV2lz (w_X9_owedFor (d := 5) (Nat.le_refl _) hS1 hL e4) dX9_balance_55 kl_X9_198 (hL.1 0 (by decide)) rfl (Nat.le_trans (by decide) hd) (by decide) (Nat.le_of_ble_eq_true rfl) (fun _ => ?_)
      refine AW_ladd dX9_balance_58 ?_
      refine AW_lstore_n3 dX9_balance_59 (by decide) rfl ?_
      refine AW_goto 82 dX9_balance_60 (by decide) ?_
      refine AW_iinc_5 (v := 1) dX9_balance_82 (by decide) (by decide) rfl ?_
      refine AW_goto 23 dX9_balance_85 (by decide) ?_
      refine AW_sb (rk_sbs (rk_sbs (rk_sbs (rk_sbs (rk_sbn (rk_sbs (rk_sbn rk_sb0))))))) ?_
      exact hc _ _ _ (Option.some.inj hf).symm
theorem L_X9_balance_w23 {G : rk_G} {l : Launch} {d kc ks : Nat} {n : Nat} {S : rk_Sh} {J : rk_J} {R : rk_R} {Q : rk_Q} {u1 : Int32} {u2 : Int32} {r : Int64 × Int32 × rk_I} (hd : 6 ≤ d) (hL : rk_LC S R) (he : ∀ (w0 : Int64) (w1 : Int32) (I9 : rk_I), r = (w0, w1, I9) → AW G l yX9_balance cX9_balance 7 (some .long) d kc ks 88 [some (.ref 0), some (.int u1), some (.int u2), some (.long w0), none, some (.int w1), none] [] n S I9 J R Q) :
    ∀ (m9 : Nat) (s3 : Int64) (s5 : Int32) (I : rk_I), rk_loop (fun a9 => f_X9_balance_l23 S a9.2.2 R u1 u2 a9.1 a9.2.1) m9 (s3, s5, I) = some r → AW G l yX9_balance cX9_balance 7 (some .long) d kc ks 23 [some (.ref 0), some (.int u1), some (.int u2), some (.long s3), none, some (.int s5), none] [] n S I J R Q := by
  intro m9
  induction m9 with
  | zero => intro s3 s5 I hf; cases hf
  | succ m9 ih =>
    intro s3 s5 I hf 
    obtain ⟨r9, hf, hr⟩ := rk_loop_s hf
    exact b_X9_balance_l23 hd hL hf (fun _ _ _ h9 => by subst h9; exact ih _ _ _ hr) (fun _ _ _ h9 => by subst h9; exact he _ _ _ hr.symm)
noncomputable def f_X9_balance (S : rk_Sh) (I : rk_I) (R : rk_R) (a1 : Int32) (a2 : Int32) : Option (Int64 × rk_I) :=
(f_X9_isHand a1).bind fun x1 =>
if x1 = 0 then (
some ((-4611686018427387904), I)) else (
(f_X9_isHour a2).bind fun x2 =>
if x2 = 0 then (
some ((-4611686018427387904), I)) else (
rk_b3 (rk_while (fun a9 => f_X9_balance_l23 S a9.2.2 R a1 a2 a9.1 a9.2.1) (0, 0, I)) fun x3 x4 I1 =>
some (x3, I1)))
theorem b_X9_balance {G : rk_G} {l : Launch} {d kc ks : Nat} {n : Nat} {S : rk_Sh} {I : rk_I} {J : rk_J} {R : rk_R} {Q : rk_Q} {a1 : Int32} {a2 : Int32} {r : Int64 × rk_I} (hd : 6 ≤ d) (hL : rk_LC S R) (hf : f_X9_balance S I R a1 a2 = some r) (hq : ∀ (v9 : Int64) (I9 : rk_I), r = (v9, I9) → Q (some (.long v9)) n S I9 J R) :
    AW G l yX9_balance cX9_balance 7 (some .long) d kc ks 0 [some (.ref 0), some (.int a1), some (.int a2), none, none, none, none] [] n S I J R Q := by
  unfold f_X9_balance at hf
  refine AW_iload_n1 dX9_balance_0 ?_
  replace hf := rk_bd hf
  obtain ⟨x1, e1, hf⟩ := hf
  refine AW_iS1iz (w_X9_isHand (d := 0) e1) dX9_balance_1 kl_X9_100 (Nat.le_trans (by decide) hd) (by decide) (Nat.le_of_ble_eq_true rfl) (fun _ => ?_)
  refine AW_if_eq 14 dX9_balance_4 (by decide) (fun h1 => ?_) (fun h1 => ?_)
  · replace hf := rk_it hf h1
    refine AW_ldc2 dX9_balance_14 kv_X9_156 ?_
    exact AW_lret dX9_balance_17 rfl (hq _ _ (Option.some.inj hf).symm)
  · replace hf := rk_if hf h1
    refine AW_iload_n2 dX9_balance_7 ?_
    replace hf := rk_bd hf
    obtain ⟨x2, e2, hf⟩ := hf
    refine AW_iS1iz (w_X9_isHour (d := 0) e2) dX9_balance_8 kl_X9_122 (Nat.le_trans (by decide) hd) (by decide) (Nat.le_of_ble_eq_true rfl) (fun _ => ?_)
    refine AW_if_ne 18 dX9_balance_11 (by decide) (fun h2 => ?_) (fun h2 => ?_)
    · replace hf := rk_if hf h2
      refine AW_lconst (v := 0) dX9_balance_18 (by decide) ?_
      refine AW_lstore_n3 dX9_balance_19 (by decide) rfl ?_
      refine AW_iconst (v := 0) dX9_balance_20 (by decide) ?_
      refine AW_istore_5 dX9_balance_21 (by decide) rfl ?_
      refine AW_sb (rk_sbs (rk_sbs (rk_sbs (rk_sbs (rk_sbn (rk_sbs (rk_sbn rk_sb0))))))) ?_
      replace hf := rk_bd3 hf
      obtain ⟨x3, x4, I1, e3, hf⟩ := hf
      obtain ⟨m1, e3⟩ := rk_while_sp e3
      refine L_X9_balance_w23 (Nat.le_trans (by decide) hd) hL ?_ m1 _ _ _ e3
      intro x3 x4 I1 h9
      cases h9
      refine AW_lload_n3 dX9_balance_88 ?_
      exact AW_lret dX9_balance_89 rfl (hq _ _ (Option.some.inj hf).symm)
    · replace hf := rk_it hf h2
      refine AW_ldc2 dX9_balance_14 kv_X9_156 ?_
      exact AW_lret dX9_balance_17 rfl (hq _ _ (Option.some.inj hf).symm)
theorem w_X9_balance {G : rk_G} {l : Launch} {d : Nat} {n : Nat} {S : rk_Sh} {I : rk_I} {J : rk_J} {R : rk_R} {a1 : Int32} {a2 : Int32} {v8 : Int64} {I8 : rk_I} (hd : 6 ≤ d) (hL : rk_LC S R) (hf : f_X9_balance S I R a1 a2 = some (v8, I8)) :
    CW G l yX9_balance cX9_balance 7 (some .long) d 0 0 [.ref 0, .int a1, .int a2] n S I J R (rk_ql v8 n S I8 J R True) :=
  CW.of (by decide +kernel) (Nat.le_of_ble_eq_true rfl) (rk_sbs (rk_sbs (rk_sbs (rk_sbe (rk_sbe (rk_sbe (rk_sbe rk_sb0))))))) (b_X9_balance hd hL hf (fun v9 I9 h9 => by cases h9; exact ⟨rfl, rfl, rfl, rfl, rfl, rfl, trivial⟩))
noncomputable def f_X10_balance_j57 (I : rk_I) (J : rk_J) (u1 : Int32) (u2 : Int32) (j3 : Int64) (j5 : Int32) : Option ((Int64 × Int32 × rk_I × rk_J) ⊕ (Int64 × Int32 × rk_I × rk_J)) :=
rk_b3 (f_X10_owesOf I J j5 u2) fun x1 I1 J1 =>
(rk_rd I1 40 24 j5).bind fun x2 =>
if x2 = u1 then (
some (.inl ((j3 + x1), (j5 + 1), I1, J1))) else (
some (.inl ((j3 + (-x1)), (j5 + 1), I1, J1)))
theorem b_X10_balance_j57 {G : rk_G} {l : Launch} {d kc ks : Nat} {n : Nat} {S : rk_Sh} {I : rk_I} {J : rk_J} {R : rk_R} {Q : rk_Q} {u1 : Int32} {u2 : Int32} {j3 : Int64} {j5 : Int32} {r : (Int64 × Int32 × rk_I × rk_J) ⊕ (Int64 × Int32 × rk_I × rk_J)} (hd : 68 ≤ d) (hM : rk_LM S R) (hf : f_X10_balance_j57 I J u1 u2 j3 j5 = some r) (hc : ∀ (w0 : Int64) (w1 : Int32) (I9 : rk_I) (J9 : rk_J), r = .inl (w0, w1, I9, J9) → AW G l yX10_balance cX10_balance 8 (some .long) d kc ks 23 [some (.ref 31), some (.int u1), some (.int u2), some (.long w0), none, some (.int w1), none, none] [] n S I9 J9 R Q) (he : ∀ (w0 : Int64) (w1 : Int32) (I9 : rk_I) (J9 : rk_J), r = .inr (w0, w1, I9, J9) → AW G l yX10_balance cX10_balance 8 (some .long) d kc ks 94 [some (.ref 31), some (.int u1), some (.int u2), some (.long w0), none, some (.int w1), none, none] [] n S I9 J9 R Q) :
    AW G l yX10_balance cX10_balance 8 (some .long) d kc ks 57 [some (.ref 31), some (.int u1), some (.int u2), some (.long j3), none, some (.int j5), none, none] [] n S I J R Q := by
  unfold f_X10_balance_j57 at hf
  refine AW_aload_n0 dX10_balance_57 ?_
  refine AW_iload_5 dX10_balance_58 ?_
  refine AW_iload_n2 dX10_balance_60 ?_
  replace hf := rk_bd3 hf
  obtain ⟨x1, I1, J1, e1, hf⟩ := hf
  refine AW_iV2lz (w_X10_owesOf (d := 67) (Nat.le_refl _) hM e1) dX10_balance_61 kl_X10_316 (hM.1 31 (by decide) (by decide)) rfl (Nat.le_trans (by decide) hd) (by decide) (Nat.le_of_ble_eq_true rfl) (fun _ => ?_)
  refine AW_lstore_6 dX10_balance_64 (by decide) rfl ?_
  refine AW_lload_n3 dX10_balance_66 ?_
  refine AW_aload_n0 dX10_balance_67 ?_
  refine AW_getR dX10_balance_68 kf_X10_38 rfl (hM.1 31 (by decide) (by decide)) (by decide) (hM.2 31 13 40 rfl) ?_
  refine AW_iload_5 dX10_balance_71 ?_
  replace hf := rk_bd hf
  obtain ⟨x2, e2, hf⟩ := hf
  refine AW_rd dX10_balance_73 (hM.1 40 (by decide) (by decide)) e2 ?_
  refine AW_iload_n1 dX10_balance_74 ?_
  refine AW_icmp_ne 83 dX10_balance_75 (by decide) (fun h1 => ?_) (fun h1 => ?_)
  · replace hf := rk_if hf h1
    refine AW_lload_6 dX10_balance_83 ?_
    refine AW_lneg dX10_balance_85 ?_
    refine AW_ladd dX10_balance_86 ?_
    refine AW_lstore_n3 dX10_balance_87 (by decide) rfl ?_
    refine AW_iinc_5 (v := 1) dX10_balance_88 (by decide) (by decide) rfl ?_
    refine AW_goto 23 dX10_balance_91 (by decide) ?_
    refine AW_sb (rk_sbs (rk_sbs (rk_sbs (rk_sbs (rk_sbn (rk_sbs (rk_sbn (rk_sbn rk_sb0)))))))) ?_
    exact hc _ _ _ _ (Option.some.inj hf).symm
  · replace hf := rk_it hf h1
    refine AW_lload_6 dX10_balance_78 ?_
    refine AW_goto 86 dX10_balance_80 (by decide) ?_
    refine AW_ladd dX10_balance_86 ?_
    refine AW_lstore_n3 dX10_balance_87 (by decide) rfl ?_
    refine AW_iinc_5 (v := 1) dX10_balance_88 (by decide) (by decide) rfl ?_
    refine AW_goto 23 dX10_balance_91 (by decide) ?_
    refine AW_sb (rk_sbs (rk_sbs (rk_sbs (rk_sbs (rk_sbn (rk_sbs (rk_sbn (rk_sbn rk_sb0)))))))) ?_
    exact hc _ _ _ _ (Option.some.inj hf).symm
noncomputable def f_X10_balance_l23 (I : rk_I) (J : rk_J) (u1 : Int32) (u2 : Int32) (s3 : Int64) (s5 : Int32) : Option ((Int64 × Int32 × rk_I × rk_J) ⊕ (Int64 × Int32 × rk_I × rk_J)) :=
if (I 31 20) ≤ s5 then (
some (.inr (s3, s5, I, J))) else (
(rk_rd I 40 24 s5).bind fun x1 =>
if x1 = u1 then (
f_X10_balance_j57 I J u1 u2 s3 s5) else (
(rk_rd I 41 24 s5).bind fun x2 =>
if x2 = u1 then (
f_X10_balance_j57 I J u1 u2 s3 s5) else (
some (.inl (s3, (s5 + 1), I, J)))))
theorem b_X10_balance_l23 {G : rk_G} {l : Launch} {d kc ks : Nat} {n : Nat} {S : rk_Sh} {I : rk_I} {J : rk_J} {R : rk_R} {Q : rk_Q} {u1 : Int32} {u2 : Int32} {s3 : Int64} {s5 : Int32} {r : (Int64 × Int32 × rk_I × rk_J) ⊕ (Int64 × Int32 × rk_I × rk_J)} (hd : 68 ≤ d) (hM : rk_LM S R) (hf : f_X10_balance_l23 I J u1 u2 s3 s5 = some r) (hc : ∀ (w0 : Int64) (w1 : Int32) (I9 : rk_I) (J9 : rk_J), r = .inl (w0, w1, I9, J9) → AW G l yX10_balance cX10_balance 8 (some .long) d kc ks 23 [some (.ref 31), some (.int u1), some (.int u2), some (.long w0), none, some (.int w1), none, none] [] n S I9 J9 R Q) (he : ∀ (w0 : Int64) (w1 : Int32) (I9 : rk_I) (J9 : rk_J), r = .inr (w0, w1, I9, J9) → AW G l yX10_balance cX10_balance 8 (some .long) d kc ks 94 [some (.ref 31), some (.int u1), some (.int u2), some (.long w0), none, some (.int w1), none, none] [] n S I9 J9 R Q) :
    AW G l yX10_balance cX10_balance 8 (some .long) d kc ks 23 [some (.ref 31), some (.int u1), some (.int u2), some (.long s3), none, some (.int s5), none, none] [] n S I J R Q := by
  unfold f_X10_balance_l23 at hf
  refine AW_iload_5 dX10_balance_23 ?_
  refine AW_aload_n0 dX10_balance_25 ?_
  refine AW_getI dX10_balance_26 kf_X10_118 rfl (hM.1 31 (by decide) (by decide)) (by decide) ?_
  refine AW_icmp_ge 94 dX10_balance_29 (by decide) (fun h1 => ?_) (fun h1 => ?_)
  · replace hf := rk_it hf h1
    refine AW_sb (rk_sbs (rk_sbs (rk_sbs (rk_sbs (rk_sbn (rk_sbs (rk_sbn (rk_sbn rk_sb0)))))))) ?_
    exact he _ _ _ _ (Option.some.inj hf).symm
  · replace hf := rk_if hf h1
    refine AW_aload_n0 dX10_balance_32 ?_
    refine AW_getR dX10_balance_33 kf_X10_38 rfl (hM.1 31 (by decide) (by decide)) (by decide) (hM.2 31 13 40 rfl) ?_
    refine AW_iload_5 dX10_balance_36 ?_
    replace hf := rk_bd hf
    obtain ⟨x1, e1, hf⟩ := hf
    refine AW_rd dX10_balance_38 (hM.1 40 (by decide) (by decide)) e1 ?_
    refine AW_iload_n1 dX10_balance_39 ?_
    refine AW_icmp_eq 57 dX10_balance_40 (by decide) (fun h2 => ?_) (fun h2 => ?_)
    · replace hf := rk_it hf h2
      refine AW_sb (rk_sbs (rk_sbs (rk_sbs (rk_sbs (rk_sbn (rk_sbs (rk_sbn (rk_sbn rk_sb0)))))))) ?_
      exact b_X10_balance_j57 (Nat.le_trans (by decide) hd) hM hf hc he
    · replace hf := rk_if hf h2
      refine AW_aload_n0 dX10_balance_43 ?_
      refine AW_getR dX10_balance_44 kf_X10_41 rfl (hM.1 31 (by decide) (by decide)) (by decide) (hM.2 31 14 41 rfl) ?_
      refine AW_iload_5 dX10_balance_47 ?_
      replace hf := rk_bd hf
      obtain ⟨x2, e2, hf⟩ := hf
      refine AW_rd dX10_balance_49 (hM.1 41 (by decide) (by decide)) e2 ?_
      refine AW_iload_n1 dX10_balance_50 ?_
      refine AW_icmp_eq 57 dX10_balance_51 (by decide) (fun h3 => ?_) (fun h3 => ?_)
      · replace hf := rk_it hf h3
        refine AW_sb (rk_sbs (rk_sbs (rk_sbs (rk_sbs (rk_sbn (rk_sbs (rk_sbn (rk_sbn rk_sb0)))))))) ?_
        exact b_X10_balance_j57 (Nat.le_trans (by decide) hd) hM hf hc he
      · replace hf := rk_if hf h3
        refine AW_goto 88 dX10_balance_54 (by decide) ?_
        refine AW_iinc_5 (v := 1) dX10_balance_88 (by decide) (by decide) rfl ?_
        refine AW_goto 23 dX10_balance_91 (by decide) ?_
        refine AW_sb (rk_sbs (rk_sbs (rk_sbs (rk_sbs (rk_sbn (rk_sbs (rk_sbn (rk_sbn rk_sb0)))))))) ?_
        exact hc _ _ _ _ (Option.some.inj hf).symm
theorem L_X10_balance_w23 {G : rk_G} {l : Launch} {d kc ks : Nat} {n : Nat} {S : rk_Sh} {R : rk_R} {Q : rk_Q} {u1 : Int32} {u2 : Int32} {r : Int64 × Int32 × rk_I × rk_J} (hd : 68 ≤ d) (hM : rk_LM S R) (he : ∀ (w0 : Int64) (w1 : Int32) (I9 : rk_I) (J9 : rk_J), r = (w0, w1, I9, J9) → AW G l yX10_balance cX10_balance 8 (some .long) d kc ks 94 [some (.ref 31), some (.int u1), some (.int u2), some (.long w0), none, some (.int w1), none, none] [] n S I9 J9 R Q) :
    ∀ (m9 : Nat) (s3 : Int64) (s5 : Int32) (I : rk_I) (J : rk_J), rk_loop (fun a9 => f_X10_balance_l23 a9.2.2.1 a9.2.2.2 u1 u2 a9.1 a9.2.1) m9 (s3, s5, I, J) = some r → AW G l yX10_balance cX10_balance 8 (some .long) d kc ks 23 [some (.ref 31), some (.int u1), some (.int u2), some (.long s3), none, some (.int s5), none, none] [] n S I J R Q := by
  intro m9
  induction m9 with
  | zero => intro s3 s5 I J hf; cases hf
  | succ m9 ih =>
    intro s3 s5 I J hf 
    obtain ⟨r9, hf, hr⟩ := rk_loop_s hf
    exact b_X10_balance_l23 hd hM hf (fun _ _ _ _ h9 => by subst h9; exact ih _ _ _ _ hr) (fun _ _ _ _ h9 => by subst h9; exact he _ _ _ _ hr.symm)
noncomputable def f_X10_balance (I : rk_I) (J : rk_J) (a1 : Int32) (a2 : Int32) : Option (Int64 × rk_I × rk_J) :=
(f_X10_isHand a1).bind fun x1 =>
if x1 = 0 then (
some ((-4611686018427387904), I, J)) else (
(f_X10_isHour a2).bind fun x2 =>
if x2 = 0 then (
some ((-4611686018427387904), I, J)) else (
rk_b4 (rk_while (fun a9 => f_X10_balance_l23 a9.2.2.1 a9.2.2.2 a1 a2 a9.1 a9.2.1) (0, 0, I, J)) fun x3 x4 I1 J1 =>
some (x3, I1, J1)))
theorem b_X10_balance {G : rk_G} {l : Launch} {d kc ks : Nat} {n : Nat} {S : rk_Sh} {I : rk_I} {J : rk_J} {R : rk_R} {Q : rk_Q} {a1 : Int32} {a2 : Int32} {r : Int64 × rk_I × rk_J} (hd : 68 ≤ d) (hM : rk_LM S R) (hf : f_X10_balance I J a1 a2 = some r) (hq : ∀ (v9 : Int64) (I9 : rk_I) (J9 : rk_J), r = (v9, I9, J9) → Q (some (.long v9)) n S I9 J9 R) :
    AW G l yX10_balance cX10_balance 8 (some .long) d kc ks 0 [some (.ref 31), some (.int a1), some (.int a2), none, none, none, none, none] [] n S I J R Q := by
  unfold f_X10_balance at hf
  refine AW_iload_n1 dX10_balance_0 ?_
  replace hf := rk_bd hf
  obtain ⟨x1, e1, hf⟩ := hf
  refine AW_iS1iz (w_X10_isHand (d := 1) (Nat.le_refl _) e1) dX10_balance_1 kl_X10_125 (Nat.le_trans (by decide) hd) (by decide) (Nat.le_of_ble_eq_true rfl) (fun _ => ?_)
  refine AW_if_eq 14 dX10_balance_4 (by decide) (fun h1 => ?_) (fun h1 => ?_)
  · replace hf := rk_it hf h1
    refine AW_ldc2 dX10_balance_14 kv_X10_168 ?_
    exact AW_lret dX10_balance_17 rfl (hq _ _ _ (Option.some.inj hf).symm)
  · replace hf := rk_if hf h1
    refine AW_iload_n2 dX10_balance_7 ?_
    replace hf := rk_bd hf
    obtain ⟨x2, e2, hf⟩ := hf
    refine AW_iS1iz (w_X10_isHour (d := 1) (Nat.le_refl _) e2) dX10_balance_8 kl_X10_138 (Nat.le_trans (by decide) hd) (by decide) (Nat.le_of_ble_eq_true rfl) (fun _ => ?_)
    refine AW_if_ne 18 dX10_balance_11 (by decide) (fun h2 => ?_) (fun h2 => ?_)
    · replace hf := rk_if hf h2
      refine AW_lconst (v := 0) dX10_balance_18 (by decide) ?_
      refine AW_lstore_n3 dX10_balance_19 (by decide) rfl ?_
      refine AW_iconst (v := 0) dX10_balance_20 (by decide) ?_
      refine AW_istore_5 dX10_balance_21 (by decide) rfl ?_
      refine AW_sb (rk_sbs (rk_sbs (rk_sbs (rk_sbs (rk_sbn (rk_sbs (rk_sbn (rk_sbn rk_sb0)))))))) ?_
      replace hf := rk_bd4 hf
      obtain ⟨x3, x4, I1, J1, e3, hf⟩ := hf
      obtain ⟨m1, e3⟩ := rk_while_sp e3
      refine L_X10_balance_w23 (Nat.le_trans (by decide) hd) hM ?_ m1 _ _ _ _ e3
      intro x3 x4 I1 J1 h9
      cases h9
      refine AW_lload_n3 dX10_balance_94 ?_
      exact AW_lret dX10_balance_95 rfl (hq _ _ _ (Option.some.inj hf).symm)
    · replace hf := rk_it hf h2
      refine AW_ldc2 dX10_balance_14 kv_X10_168 ?_
      exact AW_lret dX10_balance_17 rfl (hq _ _ _ (Option.some.inj hf).symm)
theorem w_X10_balance {G : rk_G} {l : Launch} {d : Nat} {n : Nat} {S : rk_Sh} {I : rk_I} {J : rk_J} {R : rk_R} {a1 : Int32} {a2 : Int32} {v8 : Int64} {I8 : rk_I} {J8 : rk_J} (hd : 68 ≤ d) (hM : rk_LM S R) (hf : f_X10_balance I J a1 a2 = some (v8, I8, J8)) :
    CW G l yX10_balance cX10_balance 8 (some .long) d 0 0 [.ref 31, .int a1, .int a2] n S I J R (rk_ql v8 n S I8 J8 R True) :=
  CW.of (by decide +kernel) (Nat.le_of_ble_eq_true rfl) (rk_sbs (rk_sbs (rk_sbs (rk_sbe (rk_sbe (rk_sbe (rk_sbe (rk_sbe rk_sb0)))))))) (b_X10_balance hd hM hf (fun v9 I9 J9 h9 => by cases h9; exact ⟨rfl, rfl, rfl, rfl, rfl, rfl, trivial⟩))
noncomputable def f_X9_areOfOneCargo_l19 (S : rk_Sh) (I : rk_I) (R : rk_R) (u1 : Int32) (s2 : Option Nat) (s3 : Int32) : Option ((Option Nat × Int32) ⊕ ((Option Nat × Int32) ⊕ (Int32))) :=
if (I 0 3) ≤ s3 then (
some (.inr (.inl (s2, s3)))) else (
if ((rk_us u1 s3) &&& 1) = 0 then (
some (.inl (s2, (s3 + 1)))) else (
rk_oc s2 (
(rk_rdR R 2 24 s3).bind fun q1 =>
(rk_dr S 5 11 q1).bind fun o2 =>
(some (R o2 1)).bind fun q2 =>
some (.inl (q2, (s3 + 1)))) (fun o1 => (
(rk_rdR R 2 24 s3).bind fun q3 =>
(rk_dr S 5 11 q3).bind fun o3 =>
(some (R o3 1)).bind fun q4 =>
(rk_dr S 0 5 q4).bind fun o4 =>
(rk_ck S o1 0 5).bind fun _ =>
if o4 = o1 then (
(some (R o3 1)).bind fun q5 =>
some (.inl (q5, (s3 + 1)))) else (
some (.inr (.inr 0)))))))
theorem b_X9_areOfOneCargo_l19 {G : rk_G} {l : Launch} {d kc ks : Nat} {n : Nat} {S : rk_Sh} {I : rk_I} {J : rk_J} {R : rk_R} {Q : rk_Q} {u1 : Int32} {s2 : Option Nat} {s3 : Int32} {r : (Option Nat × Int32) ⊕ ((Option Nat × Int32) ⊕ (Int32))} (hL : rk_LC S R) (hf : f_X9_areOfOneCargo_l19 S I R u1 s2 s3 = some r) (hc : ∀ (w0 : Option Nat) (w1 : Int32), r = .inl (w0, w1) → AW G l yX9_areOfOneCargo cX9_areOfOneCargo 4 (some .boolean) d kc ks 19 [some (.ref 0), some (.int u1), some (rk_o w0), some (.int w1)] [] n S I J R Q) (he : ∀ (w0 : Option Nat) (w1 : Int32), r = .inr (.inl (w0, w1)) → AW G l yX9_areOfOneCargo cX9_areOfOneCargo 4 (some .boolean) d kc ks 73 [some (.ref 0), some (.int u1), some (rk_o w0), some (.int w1)] [] n S I J R Q) (hq : ∀ (v9 : Int32), r = .inr (.inr v9) → Q (some (.int v9)) n S I J R) :
    AW G l yX9_areOfOneCargo cX9_areOfOneCargo 4 (some .boolean) d kc ks 19 [some (.ref 0), some (.int u1), some (rk_o s2), some (.int s3)] [] n S I J R Q := by
  unfold f_X9_areOfOneCargo_l19 at hf
  refine AW_iload_n3 dX9_areOfOneCargo_19 ?_
  refine AW_aload_n0 dX9_areOfOneCargo_20 ?_
  refine AW_getI dX9_areOfOneCargo_21 kf_X9_125 rfl (hL.1 0 (by decide)) (by decide) ?_
  refine AW_icmp_ge 73 dX9_areOfOneCargo_24 (by decide) (fun h1 => ?_) (fun h1 => ?_)
  · replace hf := rk_it hf h1
    refine AW_sb (rk_sbs (rk_sbs (rk_sbs (rk_sbs rk_sb0)))) ?_
    exact he _ _ (Option.some.inj hf).symm
  · replace hf := rk_if hf h1
    refine AW_iload_n1 dX9_areOfOneCargo_27 ?_
    refine AW_iload_n3 dX9_areOfOneCargo_28 ?_
    refine AW_us dX9_areOfOneCargo_29 ?_
    refine AW_iconst (v := 1) dX9_areOfOneCargo_30 (by decide) ?_
    refine AW_iand dX9_areOfOneCargo_31 ?_
    refine AW_if_ne 38 dX9_areOfOneCargo_32 (by decide) (fun h2 => ?_) (fun h2 => ?_)
    · replace hf := rk_if hf h2
      refine AW_aloadO_n2 dX9_areOfOneCargo_38 ?_
      rcases s2 with _ | o1
      · replace hf := rk_oc_n hf
        refine AW_ifnullN 57 dX9_areOfOneCargo_39 (by decide) ?_
        refine AW_aload_n0 dX9_areOfOneCargo_57 ?_
        refine AW_getR dX9_areOfOneCargo_58 kf_X9_17 rfl (hL.1 0 (by decide)) (by decide) (hL.2 0 2 2 rfl) ?_
        refine AW_iload_n3 dX9_areOfOneCargo_61 ?_
        replace hf := rk_bd hf
        obtain ⟨q1, e1, hf⟩ := hf
        refine AW_rdR dX9_areOfOneCargo_62 (hL.1 2 (by decide)) (by decide) e1 ?_
        replace hf := rk_bd hf
        obtain ⟨o2, e2, hf⟩ := hf
        obtain ⟨e2, hS1⟩ := rk_dr_sp e2
        subst e2
        replace hf := rk_bd hf
        obtain ⟨q2, e3, hf⟩ := hf
        refine AW_getQ dX9_areOfOneCargo_63 kf_X9_252 rfl hS1 (by decide) e3 ?_
        refine AW_astoreO_n2 dX9_areOfOneCargo_66 (by decide) rfl ?_
        refine AW_iinc_3 (v := 1) dX9_areOfOneCargo_67 (by decide) (by decide) (rk_oneO _) ?_
        refine AW_goto 19 dX9_areOfOneCargo_70 (by decide) ?_
        refine AW_sb (rk_sbs (rk_sbs (rk_sbs (rk_sbs rk_sb0)))) ?_
        exact hc _ _ (Option.some.inj hf).symm
      · replace hf := rk_oc_s hf
        refine AW_ifnull dX9_areOfOneCargo_39 ?_
        refine AW_aload_n0 dX9_areOfOneCargo_42 ?_
        refine AW_getR dX9_areOfOneCargo_43 kf_X9_17 rfl (hL.1 0 (by decide)) (by decide) (hL.2 0 2 2 rfl) ?_
        refine AW_iload_n3 dX9_areOfOneCargo_46 ?_
        replace hf := rk_bd hf
        obtain ⟨q3, e4, hf⟩ := hf
        refine AW_rdR dX9_areOfOneCargo_47 (hL.1 2 (by decide)) (by decide) e4 ?_
        replace hf := rk_bd hf
        obtain ⟨o3, e5, hf⟩ := hf
        obtain ⟨e5, hS2⟩ := rk_dr_sp e5
        subst e5
        replace hf := rk_bd hf
        obtain ⟨q4, e6, hf⟩ := hf
        refine AW_getQ dX9_areOfOneCargo_48 kf_X9_252 rfl hS2 (by decide) e6 ?_
        refine AW_aload_n2 dX9_areOfOneCargo_51 ?_
        replace hf := rk_bd hf
        obtain ⟨o4, e7, hf⟩ := hf
        obtain ⟨e7, hS3⟩ := rk_dr_sp e7
        subst e7
        replace hf := rk_bd hf
        obtain ⟨_, e8, hf⟩ := hf
        have e8 := rk_ck_sp e8
        refine AW_acmS_eq 57 dX9_areOfOneCargo_52 (by decide) hS3 (by decide) e8 (by decide) (fun h3 => ?_) (fun h3 => ?_)
        · replace hf := rk_it hf h3
          refine AW_aload_n0 dX9_areOfOneCargo_57 ?_
          refine AW_getR dX9_areOfOneCargo_58 kf_X9_17 rfl (hL.1 0 (by decide)) (by decide) (hL.2 0 2 2 rfl) ?_
          refine AW_iload_n3 dX9_areOfOneCargo_61 ?_
          refine AW_rdR (q := (some o3)) dX9_areOfOneCargo_62 (hL.1 2 (by decide)) (by decide) e4 ?_
          replace hf := rk_bd hf
          obtain ⟨q5, e9, hf⟩ := hf
          refine AW_getQ dX9_areOfOneCargo_63 kf_X9_252 rfl hS2 (by decide) e9 ?_
          refine AW_astoreO_n2 dX9_areOfOneCargo_66 (by decide) rfl ?_
          refine AW_iinc_3 (v := 1) dX9_areOfOneCargo_67 (by decide) (by decide) (rk_oneO _) ?_
          refine AW_goto 19 dX9_areOfOneCargo_70 (by decide) ?_
          refine AW_sb (rk_sbs (rk_sbs (rk_sbs (rk_sbs rk_sb0)))) ?_
          exact hc _ _ (Option.some.inj hf).symm
        · replace hf := rk_if hf h3
          refine AW_iconst (v := 0) dX9_areOfOneCargo_55 (by decide) ?_
          exact AW_zret dX9_areOfOneCargo_56 rfl rfl (hq _ (Option.some.inj hf).symm)
    · replace hf := rk_it hf h2
      refine AW_goto 67 dX9_areOfOneCargo_35 (by decide) ?_
      refine AW_iinc_3 (v := 1) dX9_areOfOneCargo_67 (by decide) (by decide) (rk_oneO _) ?_
      refine AW_goto 19 dX9_areOfOneCargo_70 (by decide) ?_
      refine AW_sb (rk_sbs (rk_sbs (rk_sbs (rk_sbs rk_sb0)))) ?_
      exact hc _ _ (Option.some.inj hf).symm
theorem L_X9_areOfOneCargo_w19 {G : rk_G} {l : Launch} {d kc ks : Nat} {n : Nat} {S : rk_Sh} {I : rk_I} {J : rk_J} {R : rk_R} {Q : rk_Q} {u1 : Int32} {r : (Option Nat × Int32) ⊕ (Int32)} (hL : rk_LC S R) (he : ∀ (w0 : Option Nat) (w1 : Int32), r = .inl (w0, w1) → AW G l yX9_areOfOneCargo cX9_areOfOneCargo 4 (some .boolean) d kc ks 73 [some (.ref 0), some (.int u1), some (rk_o w0), some (.int w1)] [] n S I J R Q) (hq : ∀ (v9 : Int32), r = .inr v9 → Q (some (.int v9)) n S I J R) :
    ∀ (m9 : Nat) (s2 : Option Nat) (s3 : Int32) , rk_loop (fun a9 => f_X9_areOfOneCargo_l19 S I R u1 a9.1 a9.2) m9 (s2, s3) = some r → AW G l yX9_areOfOneCargo cX9_areOfOneCargo 4 (some .boolean) d kc ks 19 [some (.ref 0), some (.int u1), some (rk_o s2), some (.int s3)] [] n S I J R Q := by
  intro m9
  induction m9 with
  | zero => intro s2 s3 hf; cases hf
  | succ m9 ih =>
    intro s2 s3 hf 
    obtain ⟨r9, hf, hr⟩ := rk_loop_s hf
    exact b_X9_areOfOneCargo_l19 hL hf (fun _ _ h9 => by subst h9; exact ih _ _ hr) (fun _ _ h9 => by subst h9; exact he _ _ hr.symm) (fun _ h9 => by subst h9; exact hq _ hr.symm)
noncomputable def f_X9_areOfOneCargo (S : rk_Sh) (I : rk_I) (R : rk_R) (a1 : Int32) : Option (Int32) :=
if a1 = 0 then (
some 0) else (
if (rk_us a1 (I 0 3)) = 0 then (
(rk_while (fun a9 => f_X9_areOfOneCargo_l19 S I R a1 a9.1 a9.2) (none, 0)).bind fun q9 => rk_sc q9 (fun b9 => rk_p2 b9 (fun x1 x2 => (
some 1))) (fun q8 => some q8)) else (
some 0))
theorem b_X9_areOfOneCargo {G : rk_G} {l : Launch} {d kc ks : Nat} {n : Nat} {S : rk_Sh} {I : rk_I} {J : rk_J} {R : rk_R} {Q : rk_Q} {a1 : Int32} {r : Int32} (hL : rk_LC S R) (hf : f_X9_areOfOneCargo S I R a1 = some r) (hq : ∀ (v9 : Int32), r = v9 → Q (some (.int v9)) n S I J R) :
    AW G l yX9_areOfOneCargo cX9_areOfOneCargo 4 (some .boolean) d kc ks 0 [some (.ref 0), some (.int a1), none, none] [] n S I J R Q := by
  unfold f_X9_areOfOneCargo at hf
  refine AW_iload_n1 dX9_areOfOneCargo_0 ?_
  refine AW_if_eq 13 dX9_areOfOneCargo_1 (by decide) (fun h1 => ?_) (fun h1 => ?_)
  · replace hf := rk_it hf h1
    refine AW_iconst (v := 0) dX9_areOfOneCargo_13 (by decide) ?_
    exact AW_zret dX9_areOfOneCargo_14 rfl rfl (hq _ (Option.some.inj hf).symm)
  · replace hf := rk_if hf h1
    refine AW_iload_n1 dX9_areOfOneCargo_4 ?_
    refine AW_aload_n0 dX9_areOfOneCargo_5 ?_
    refine AW_getI dX9_areOfOneCargo_6 kf_X9_125 rfl (hL.1 0 (by decide)) (by decide) ?_
    refine AW_us dX9_areOfOneCargo_9 ?_
    refine AW_if_eq 15 dX9_areOfOneCargo_10 (by decide) (fun h2 => ?_) (fun h2 => ?_)
    · replace hf := rk_it hf h2
      refine AW_null dX9_areOfOneCargo_15 ?_
      refine AW_astoreN_n2 dX9_areOfOneCargo_16 (by decide) rfl ?_
      refine AW_iconst (v := 0) dX9_areOfOneCargo_17 (by decide) ?_
      refine AW_istore_n3 dX9_areOfOneCargo_18 (by decide) rfl ?_
      refine AW_sb (rk_sbs (rk_sbs (rk_sbs (rk_sbs rk_sb0)))) ?_
      replace hf := rk_bd hf
      obtain ⟨q9, e1, hf⟩ := hf
      obtain ⟨m1, e1⟩ := rk_while_sp e1
      refine L_X9_areOfOneCargo_w19 hL ?_ ?_ m1 _ _ e1
      · intro x1 x2 h9
        subst h9
        replace hf := rk_scp2 hf
        refine AW_iconst (v := 1) dX9_areOfOneCargo_73 (by decide) ?_
        exact AW_zret dX9_areOfOneCargo_74 rfl rfl (hq _ (Option.some.inj hf).symm)
      · intro v7 h9
        subst h9
        replace hf := rk_sc_r hf
        exact hq _ (Option.some.inj hf).symm
    · replace hf := rk_if hf h2
      refine AW_iconst (v := 0) dX9_areOfOneCargo_13 (by decide) ?_
      exact AW_zret dX9_areOfOneCargo_14 rfl rfl (hq _ (Option.some.inj hf).symm)
theorem w_X9_areOfOneCargo {G : rk_G} {l : Launch} {d : Nat} {n : Nat} {S : rk_Sh} {I : rk_I} {J : rk_J} {R : rk_R} {a1 : Int32} {v8 : Int32} (hL : rk_LC S R) (hf : f_X9_areOfOneCargo S I R a1 = some v8) :
    CW G l yX9_areOfOneCargo cX9_areOfOneCargo 4 (some .boolean) d 0 0 [.ref 0, .int a1] n S I J R (rk_qi v8 n S I J R True) :=
  CW.of (by decide +kernel) (Nat.le_of_ble_eq_true rfl) (rk_sbs (rk_sbs (rk_sbe (rk_sbe rk_sb0)))) (b_X9_areOfOneCargo hL hf (fun v9 h9 => by cases h9; exact ⟨rfl, rfl, rfl, rfl, rfl, rfl, trivial⟩))
noncomputable def f_X4_has (a1 : Int32) (a2 : Int32) : Option (Int32) :=
if ((rk_us a1 a2) &&& 1) = 0 then (
some 0) else (
some 1)
theorem b_X4_has {G : rk_G} {l : Launch} {d kc ks : Nat} {n : Nat} {S : rk_Sh} {I : rk_I} {J : rk_J} {R : rk_R} {Q : rk_Q} {a1 : Int32} {a2 : Int32} {r : Int32} (hf : f_X4_has a1 a2 = some r) (hq : ∀ (v9 : Int32), r = v9 → Q (some (.int v9)) n S I J R) :
    AW G l yX4_has cX4_has 3 (some .boolean) d kc ks 0 [some (.ref 16), some (.int a1), some (.int a2)] [] n S I J R Q := by
  unfold f_X4_has at hf
  refine AW_iload_n1 dX4_has_0 ?_
  refine AW_iload_n2 dX4_has_1 ?_
  refine AW_us dX4_has_2 ?_
  refine AW_iconst (v := 1) dX4_has_3 (by decide) ?_
  refine AW_iand dX4_has_4 ?_
  refine AW_if_eq 12 dX4_has_5 (by decide) (fun h1 => ?_) (fun h1 => ?_)
  · replace hf := rk_it hf h1
    refine AW_iconst (v := 0) dX4_has_12 (by decide) ?_
    exact AW_zret dX4_has_13 rfl rfl (hq _ (Option.some.inj hf).symm)
  · replace hf := rk_if hf h1
    refine AW_iconst (v := 1) dX4_has_8 (by decide) ?_
    refine AW_goto 13 dX4_has_9 (by decide) ?_
    exact AW_zret dX4_has_13 rfl rfl (hq _ (Option.some.inj hf).symm)
theorem w_X4_has {G : rk_G} {l : Launch} {d : Nat} {n : Nat} {S : rk_Sh} {I : rk_I} {J : rk_J} {R : rk_R} {a1 : Int32} {a2 : Int32} {v8 : Int32} (hf : f_X4_has a1 a2 = some v8) :
    CW G l yX4_has cX4_has 3 (some .boolean) d 0 0 [.ref 16, .int a1, .int a2] n S I J R (rk_qi v8 n S I J R True) :=
  CW.of (by decide +kernel) (Nat.le_of_ble_eq_true rfl) (rk_sbs (rk_sbs (rk_sbs rk_sb0))) (b_X4_has hf (fun v9 h9 => by cases h9; exact ⟨rfl, rfl, rfl, rfl, rfl, rfl, trivial⟩))
noncomputable def f_X4_amountsAlike_l4 (S : rk_Sh) (I : rk_I) (R : rk_R) (u1 : Int32) (s2 : Int32) (s3 : Int32) : Option ((Int32 × Int32) ⊕ ((Int32 × Int32) ⊕ (Int32))) :=
if (I 16 2) ≤ s3 then (
some (.inr (.inl (s2, s3)))) else (
(f_X4_has u1 s3).bind fun x1 =>
if x1 = 0 then (
some (.inl (s2, (s3 + 1)))) else (
if s2 = (-1) then (
(rk_ckR R 16 1 2).bind fun _ =>
(rk_rdR R 2 24 s3).bind fun q1 =>
(rk_dr S 5 11 q1).bind fun o1 =>
some (.inl ((I o1 4), (s3 + 1)))) else (
(rk_ckR R 16 1 2).bind fun _ =>
(rk_rdR R 2 24 s3).bind fun q2 =>
(rk_dr S 5 11 q2).bind fun o2 =>
if s2 = (I o2 4) then (
(rk_ckR R 16 1 2).bind fun _ =>
some (.inl ((I o2 4), (s3 + 1)))) else (
some (.inr (.inr 0))))))
theorem b_X4_amountsAlike_l4 {G : rk_G} {l : Launch} {d kc ks : Nat} {n : Nat} {S : rk_Sh} {I : rk_I} {J : rk_J} {R : rk_R} {Q : rk_Q} {u1 : Int32} {s2 : Int32} {s3 : Int32} {r : (Int32 × Int32) ⊕ ((Int32 × Int32) ⊕ (Int32))} (hd : 1 ≤ d) (hL : rk_LC S R) (hf : f_X4_amountsAlike_l4 S I R u1 s2 s3 = some r) (hc : ∀ (w0 : Int32) (w1 : Int32), r = .inl (w0, w1) → AW G l yX4_amountsAlike cX4_amountsAlike 4 (some .boolean) d kc ks 4 [some (.ref 16), some (.int u1), some (.int w0), some (.int w1)] [] n S I J R Q) (he : ∀ (w0 : Int32) (w1 : Int32), r = .inr (.inl (w0, w1)) → AW G l yX4_amountsAlike cX4_amountsAlike 4 (some .boolean) d kc ks 57 [some (.ref 16), some (.int u1), some (.int w0), some (.int w1)] [] n S I J R Q) (hq : ∀ (v9 : Int32), r = .inr (.inr v9) → Q (some (.int v9)) n S I J R) :
    AW G l yX4_amountsAlike cX4_amountsAlike 4 (some .boolean) d kc ks 4 [some (.ref 16), some (.int u1), some (.int s2), some (.int s3)] [] n S I J R Q := by
  unfold f_X4_amountsAlike_l4 at hf
  refine AW_iload_n3 dX4_amountsAlike_4 ?_
  refine AW_aload_n0 dX4_amountsAlike_5 ?_
  refine AW_getI dX4_amountsAlike_6 kf_X4_19 rfl (hL.1 16 (by decide)) (by decide) ?_
  refine AW_icmp_ge 57 dX4_amountsAlike_9 (by decide) (fun h1 => ?_) (fun h1 => ?_)
  · replace hf := rk_it hf h1
    refine AW_sb (rk_sbs (rk_sbs (rk_sbs (rk_sbs rk_sb0)))) ?_
    exact he _ _ (Option.some.inj hf).symm
  · replace hf := rk_if hf h1
    refine AW_aload_n0 dX4_amountsAlike_12 ?_
    refine AW_iload_n1 dX4_amountsAlike_13 ?_
    refine AW_iload_n3 dX4_amountsAlike_14 ?_
    replace hf := rk_bd hf
    obtain ⟨x1, e1, hf⟩ := hf
    refine AW_iV2iz (w_X4_has (d := 0) e1) dX4_amountsAlike_15 kl_X4_37 (hL.1 16 (by decide)) rfl (Nat.le_trans (by decide) hd) (by decide) (Nat.le_of_ble_eq_true rfl) (fun _ => ?_)
    refine AW_if_eq 51 dX4_amountsAlike_18 (by decide) (fun h2 => ?_) (fun h2 => ?_)
    · replace hf := rk_it hf h2
      refine AW_iinc_3 (v := 1) dX4_amountsAlike_51 (by decide) (by decide) rfl ?_
      refine AW_goto 4 dX4_amountsAlike_54 (by decide) ?_
      refine AW_sb (rk_sbs (rk_sbs (rk_sbs (rk_sbs rk_sb0)))) ?_
      exact hc _ _ (Option.some.inj hf).symm
    · replace hf := rk_if hf h2
      refine AW_iload_n2 dX4_amountsAlike_21 ?_
      refine AW_iconst (v := (-1)) dX4_amountsAlike_22 (by decide) ?_
      refine AW_icmp_eq 41 dX4_amountsAlike_23 (by decide) (fun h3 => ?_) (fun h3 => ?_)
      · replace hf := rk_it hf h3
        refine AW_aload_n0 dX4_amountsAlike_41 ?_
        replace hf := rk_bd hf
        obtain ⟨_, e2, hf⟩ := hf
        have e2 := rk_ckR_sp e2
        refine AW_getR dX4_amountsAlike_42 kf_X4_15 rfl (hL.1 16 (by decide)) (by decide) e2 ?_
        refine AW_iload_n3 dX4_amountsAlike_45 ?_
        replace hf := rk_bd hf
        obtain ⟨q1, e3, hf⟩ := hf
        refine AW_rdR dX4_amountsAlike_46 (hL.1 2 (by decide)) (by decide) e3 ?_
        replace hf := rk_bd hf
        obtain ⟨o1, e4, hf⟩ := hf
        obtain ⟨e4, hS1⟩ := rk_dr_sp e4
        subst e4
        refine AW_getI dX4_amountsAlike_47 kf_X4_41 rfl hS1 (by decide) ?_
        refine AW_istore_n2 dX4_amountsAlike_50 (by decide) rfl ?_
        refine AW_iinc_3 (v := 1) dX4_amountsAlike_51 (by decide) (by decide) rfl ?_
        refine AW_goto 4 dX4_amountsAlike_54 (by decide) ?_
        refine AW_sb (rk_sbs (rk_sbs (rk_sbs (rk_sbs rk_sb0)))) ?_
        exact hc _ _ (Option.some.inj hf).symm
      · replace hf := rk_if hf h3
        refine AW_iload_n2 dX4_amountsAlike_26 ?_
        refine AW_aload_n0 dX4_amountsAlike_27 ?_
        replace hf := rk_bd hf
        obtain ⟨_, e5, hf⟩ := hf
        have e5 := rk_ckR_sp e5
        refine AW_getR dX4_amountsAlike_28 kf_X4_15 rfl (hL.1 16 (by decide)) (by decide) e5 ?_
        refine AW_iload_n3 dX4_amountsAlike_31 ?_
        replace hf := rk_bd hf
        obtain ⟨q2, e6, hf⟩ := hf
        refine AW_rdR dX4_amountsAlike_32 (hL.1 2 (by decide)) (by decide) e6 ?_
        replace hf := rk_bd hf
        obtain ⟨o2, e7, hf⟩ := hf
        obtain ⟨e7, hS2⟩ := rk_dr_sp e7
        subst e7
        refine AW_getI dX4_amountsAlike_33 kf_X4_41 rfl hS2 (by decide) ?_
        refine AW_icmp_eq 41 dX4_amountsAlike_36 (by decide) (fun h4 => ?_) (fun h4 => ?_)
        · replace hf := rk_it hf h4
          refine AW_aload_n0 dX4_amountsAlike_41 ?_
          replace hf := rk_bd hf
          obtain ⟨_, e8, hf⟩ := hf
          have e8 := rk_ckR_sp e8
          refine AW_getR dX4_amountsAlike_42 kf_X4_15 rfl (hL.1 16 (by decide)) (by decide) e8 ?_
          refine AW_iload_n3 dX4_amountsAlike_45 ?_
          refine AW_rdR (q := (some o2)) dX4_amountsAlike_46 (hL.1 2 (by decide)) (by decide) e6 ?_
          refine AW_getI dX4_amountsAlike_47 kf_X4_41 rfl hS2 (by decide) ?_
          refine AW_istore_n2 dX4_amountsAlike_50 (by decide) rfl ?_
          refine AW_iinc_3 (v := 1) dX4_amountsAlike_51 (by decide) (by decide) rfl ?_
          refine AW_goto 4 dX4_amountsAlike_54 (by decide) ?_
          refine AW_sb (rk_sbs (rk_sbs (rk_sbs (rk_sbs rk_sb0)))) ?_
          exact hc _ _ (Option.some.inj hf).symm
        · replace hf := rk_if hf h4
          refine AW_iconst (v := 0) dX4_amountsAlike_39 (by decide) ?_
          exact AW_zret dX4_amountsAlike_40 rfl rfl (hq _ (Option.some.inj hf).symm)
theorem L_X4_amountsAlike_w4 {G : rk_G} {l : Launch} {d kc ks : Nat} {n : Nat} {S : rk_Sh} {I : rk_I} {J : rk_J} {R : rk_R} {Q : rk_Q} {u1 : Int32} {r : (Int32 × Int32) ⊕ (Int32)} (hd : 1 ≤ d) (hL : rk_LC S R) (he : ∀ (w0 : Int32) (w1 : Int32), r = .inl (w0, w1) → AW G l yX4_amountsAlike cX4_amountsAlike 4 (some .boolean) d kc ks 57 [some (.ref 16), some (.int u1), some (.int w0), some (.int w1)] [] n S I J R Q) (hq : ∀ (v9 : Int32), r = .inr v9 → Q (some (.int v9)) n S I J R) :
    ∀ (m9 : Nat) (s2 : Int32) (s3 : Int32) , rk_loop (fun a9 => f_X4_amountsAlike_l4 S I R u1 a9.1 a9.2) m9 (s2, s3) = some r → AW G l yX4_amountsAlike cX4_amountsAlike 4 (some .boolean) d kc ks 4 [some (.ref 16), some (.int u1), some (.int s2), some (.int s3)] [] n S I J R Q := by
  intro m9
  induction m9 with
  | zero => intro s2 s3 hf; cases hf
  | succ m9 ih =>
    intro s2 s3 hf 
    obtain ⟨r9, hf, hr⟩ := rk_loop_s hf
    exact b_X4_amountsAlike_l4 hd hL hf (fun _ _ h9 => by subst h9; exact ih _ _ hr) (fun _ _ h9 => by subst h9; exact he _ _ hr.symm) (fun _ h9 => by subst h9; exact hq _ hr.symm)
noncomputable def f_X4_amountsAlike (S : rk_Sh) (I : rk_I) (R : rk_R) (a1 : Int32) : Option (Int32) :=
(rk_while (fun a9 => f_X4_amountsAlike_l4 S I R a1 a9.1 a9.2) ((-1), 0)).bind fun q9 => rk_sc q9 (fun b9 => rk_p2 b9 (fun x1 x2 => (
some 1))) (fun q8 => some q8)
theorem b_X4_amountsAlike {G : rk_G} {l : Launch} {d kc ks : Nat} {n : Nat} {S : rk_Sh} {I : rk_I} {J : rk_J} {R : rk_R} {Q : rk_Q} {a1 : Int32} {r : Int32} (hd : 1 ≤ d) (hL : rk_LC S R) (hf : f_X4_amountsAlike S I R a1 = some r) (hq : ∀ (v9 : Int32), r = v9 → Q (some (.int v9)) n S I J R) :
    AW G l yX4_amountsAlike cX4_amountsAlike 4 (some .boolean) d kc ks 0 [some (.ref 16), some (.int a1), none, none] [] n S I J R Q := by
  unfold f_X4_amountsAlike at hf
  refine AW_iconst (v := (-1)) dX4_amountsAlike_0 (by decide) ?_
  refine AW_istore_n2 dX4_amountsAlike_1 (by decide) rfl ?_
  refine AW_iconst (v := 0) dX4_amountsAlike_2 (by decide) ?_
  refine AW_istore_n3 dX4_amountsAlike_3 (by decide) rfl ?_
  refine AW_sb (rk_sbs (rk_sbs (rk_sbs (rk_sbs rk_sb0)))) ?_
  replace hf := rk_bd hf
  obtain ⟨q9, e1, hf⟩ := hf
  obtain ⟨m1, e1⟩ := rk_while_sp e1
  refine L_X4_amountsAlike_w4 (Nat.le_trans (by decide) hd) hL ?_ ?_ m1 _ _ e1
  · intro x1 x2 h9
    subst h9
    replace hf := rk_scp2 hf
    refine AW_iconst (v := 1) dX4_amountsAlike_57 (by decide) ?_
    exact AW_zret dX4_amountsAlike_58 rfl rfl (hq _ (Option.some.inj hf).symm)
  · intro v7 h9
    subst h9
    replace hf := rk_sc_r hf
    exact hq _ (Option.some.inj hf).symm
theorem w_X4_amountsAlike {G : rk_G} {l : Launch} {d : Nat} {n : Nat} {S : rk_Sh} {I : rk_I} {J : rk_J} {R : rk_R} {a1 : Int32} {v8 : Int32} (hd : 1 ≤ d) (hL : rk_LC S R) (hf : f_X4_amountsAlike S I R a1 = some v8) :
    CW G l yX4_amountsAlike cX4_amountsAlike 4 (some .boolean) d 0 0 [.ref 16, .int a1] n S I J R (rk_qi v8 n S I J R True) :=
  CW.of (by decide +kernel) (Nat.le_of_ble_eq_true rfl) (rk_sbs (rk_sbs (rk_sbe (rk_sbe rk_sb0)))) (b_X4_amountsAlike hd hL hf (fun v9 h9 => by cases h9; exact ⟨rfl, rfl, rfl, rfl, rfl, rfl, trivial⟩))
noncomputable def f_J7_fill_53178_17_l5 (I : rk_I) (u1 : Int32) (s2 : Int32) : Option ((Int32 × rk_I) ⊕ (Int32 × rk_I)) :=
if 10 ≤ s2 then (
some (.inr (s2, I))) else (
(rk_wr I 17 10 s2 u1).bind fun I1 =>
some (.inl ((s2 + 1), I1)))
theorem b_J7_fill_53178_17_l5 {G : rk_G} {l : Launch} {d kc ks : Nat} {n : Nat} {S : rk_Sh} {I : rk_I} {J : rk_J} {R : rk_R} {Q : rk_Q} {u1 : Int32} {s2 : Int32} {r : (Int32 × rk_I) ⊕ (Int32 × rk_I)} (hL : rk_LC S R) (hf : f_J7_fill_53178_17_l5 I u1 s2 = some r) (hc : ∀ (w0 : Int32) (I9 : rk_I), r = .inl (w0, I9) → AW G l yJ7_fill_53178 cJ7_fill_53178 4 none d kc ks 5 [some (.ref 17), some (.int u1), some (.int w0), some (.int 10)] [] n S I9 J R Q) (he : ∀ (w0 : Int32) (I9 : rk_I), r = .inr (w0, I9) → AW G l yJ7_fill_53178 cJ7_fill_53178 4 none d kc ks 20 [some (.ref 17), some (.int u1), some (.int w0), some (.int 10)] [] n S I9 J R Q) :
    AW G l yJ7_fill_53178 cJ7_fill_53178 4 none d kc ks 5 [some (.ref 17), some (.int u1), some (.int s2), some (.int 10)] [] n S I J R Q := by
  unfold f_J7_fill_53178_17_l5 at hf
  refine AW_iload_n2 dJ7_fill_53178_5 ?_
  refine AW_iload_n3 dJ7_fill_53178_6 ?_
  refine AW_icmp_ge 20 dJ7_fill_53178_7 (by decide) (fun h1 => ?_) (fun h1 => ?_)
  · replace hf := rk_it hf h1
    refine AW_sb (rk_sbs (rk_sbs (rk_sbs (rk_sbs rk_sb0)))) ?_
    exact he _ _ (Option.some.inj hf).symm
  · replace hf := rk_if hf h1
    refine AW_aload_n0 dJ7_fill_53178_10 ?_
    refine AW_iload_n2 dJ7_fill_53178_11 ?_
    refine AW_iload_n1 dJ7_fill_53178_12 ?_
    replace hf := rk_bd hf
    obtain ⟨I1, e1, hf⟩ := hf
    refine AW_wr dJ7_fill_53178_13 (hL.1 17 (by decide)) e1 ?_
    refine AW_iinc_2 (v := 1) dJ7_fill_53178_14 (by decide) (by decide) rfl ?_
    refine AW_goto 5 dJ7_fill_53178_17 (by decide) ?_
    refine AW_sb (rk_sbs (rk_sbs (rk_sbs (rk_sbs rk_sb0)))) ?_
    exact hc _ _ (Option.some.inj hf).symm
theorem L_J7_fill_53178_17_w5 {G : rk_G} {l : Launch} {d kc ks : Nat} {n : Nat} {S : rk_Sh} {J : rk_J} {R : rk_R} {Q : rk_Q} {u1 : Int32} {r : Int32 × rk_I} (hL : rk_LC S R) (he : ∀ (w0 : Int32) (I9 : rk_I), r = (w0, I9) → AW G l yJ7_fill_53178 cJ7_fill_53178 4 none d kc ks 20 [some (.ref 17), some (.int u1), some (.int w0), some (.int 10)] [] n S I9 J R Q) :
    ∀ (m9 : Nat) (s2 : Int32) (I : rk_I), rk_loop (fun a9 => f_J7_fill_53178_17_l5 a9.2 u1 a9.1) m9 (s2, I) = some r → AW G l yJ7_fill_53178 cJ7_fill_53178 4 none d kc ks 5 [some (.ref 17), some (.int u1), some (.int s2), some (.int 10)] [] n S I J R Q := by
  intro m9
  induction m9 with
  | zero => intro s2 I hf; cases hf
  | succ m9 ih =>
    intro s2 I hf 
    obtain ⟨r9, hf, hr⟩ := rk_loop_s hf
    exact b_J7_fill_53178_17_l5 hL hf (fun _ _ h9 => by subst h9; exact ih _ _ hr) (fun _ _ h9 => by subst h9; exact he _ _ hr.symm)
noncomputable def f_J7_fill_53178_17 (I : rk_I) (a1 : Int32) : Option (rk_I) :=
rk_b2 (rk_while (fun a9 => f_J7_fill_53178_17_l5 a9.2 a1 a9.1) (0, I)) fun x1 I1 =>
some I1
theorem b_J7_fill_53178_17 {G : rk_G} {l : Launch} {d kc ks : Nat} {n : Nat} {S : rk_Sh} {I : rk_I} {J : rk_J} {R : rk_R} {Q : rk_Q} {a1 : Int32} {r : rk_I} (hL : rk_LC S R) (hf : f_J7_fill_53178_17 I a1 = some r) (hq : ∀ (I9 : rk_I), r = I9 → Q (none) n S I9 J R) :
    AW G l yJ7_fill_53178 cJ7_fill_53178 4 none d kc ks 0 [some (.ref 17), some (.int a1), none, none] [] n S I J R Q := by
  unfold f_J7_fill_53178_17 at hf
  refine AW_iconst (v := 0) dJ7_fill_53178_0 (by decide) ?_
  refine AW_istore_n2 dJ7_fill_53178_1 (by decide) rfl ?_
  refine AW_aload_n0 dJ7_fill_53178_2 ?_
  refine AW_alen (v := 10) dJ7_fill_53178_3 (hL.1 17 (by decide)) rfl (by decide) ?_
  refine AW_istore_n3 dJ7_fill_53178_4 (by decide) rfl ?_
  refine AW_sb (rk_sbs (rk_sbs (rk_sbs (rk_sbs rk_sb0)))) ?_
  replace hf := rk_bd2 hf
  obtain ⟨x1, I1, e1, hf⟩ := hf
  obtain ⟨m1, e1⟩ := rk_while_sp e1
  refine L_J7_fill_53178_17_w5 hL ?_ m1 _ _ e1
  intro x1 I1 h9
  cases h9
  exact AW_vret dJ7_fill_53178_20 rfl (hq _ (Option.some.inj hf).symm)
theorem w_J7_fill_53178_17 {G : rk_G} {l : Launch} {d : Nat} {n : Nat} {S : rk_Sh} {I : rk_I} {J : rk_J} {R : rk_R} {a1 : Int32} {I8 : rk_I} (hL : rk_LC S R) (hf : f_J7_fill_53178_17 I a1 = some I8) :
    CW G l yJ7_fill_53178 cJ7_fill_53178 4 none d 0 0 [.ref 17, .int a1] n S I J R (rk_qv n S I8 J R True) :=
  CW.of (by decide +kernel) (Nat.le_of_ble_eq_true rfl) (rk_sbs (rk_sbs (rk_sbe (rk_sbe rk_sb0)))) (b_J7_fill_53178_17 hL hf (fun I9 h9 => by cases h9; exact ⟨rfl, rfl, rfl, rfl, rfl, rfl, trivial⟩))
noncomputable def f_X4_allSellAsTheyBuy_l10 (S : rk_Sh) (I : rk_I) (R : rk_R) (u1 : Int32) (s2 : Int32) : Option ((Int32 × rk_I) ⊕ (Int32 × rk_I)) :=
if (I 16 2) ≤ s2 then (
some (.inr (s2, I))) else (
(f_X4_has u1 s2).bind fun x1 =>
if x1 = 0 then (
some (.inl ((s2 + 1), I))) else (
(rk_ckR R 16 1 2).bind fun _ =>
(rk_rdR R 2 24 s2).bind fun q1 =>
(rk_dr S 5 11 q1).bind fun o1 =>
(rk_rd I 17 10 (I o1 2)).bind fun x2 =>
(rk_wr I 17 10 (I o1 2) (x2 + 1)).bind fun I1 =>
(rk_ckR R 16 1 2).bind fun _ =>
(rk_rd I1 17 10 (I1 o1 3)).bind fun x3 =>
(rk_wr I1 17 10 (I1 o1 3) (x3 - 1)).bind fun I2 =>
some (.inl ((s2 + 1), I2))))
theorem b_X4_allSellAsTheyBuy_l10 {G : rk_G} {l : Launch} {d kc ks : Nat} {n : Nat} {S : rk_Sh} {I : rk_I} {J : rk_J} {R : rk_R} {Q : rk_Q} {u1 : Int32} {s2 : Int32} {r : (Int32 × rk_I) ⊕ (Int32 × rk_I)} (hd : 1 ≤ d) (hL : rk_LC S R) (hf : f_X4_allSellAsTheyBuy_l10 S I R u1 s2 = some r) (hc : ∀ (w0 : Int32) (I9 : rk_I), r = .inl (w0, I9) → AW G l yX4_allSellAsTheyBuy cX4_allSellAsTheyBuy 3 (some .boolean) d kc ks 10 [some (.ref 16), some (.int u1), some (.int w0)] [] n S I9 J R Q) (he : ∀ (w0 : Int32) (I9 : rk_I), r = .inr (w0, I9) → AW G l yX4_allSellAsTheyBuy cX4_allSellAsTheyBuy 3 (some .boolean) d kc ks 69 [some (.ref 16), some (.int u1), some (.int w0)] [] n S I9 J R Q) :
    AW G l yX4_allSellAsTheyBuy cX4_allSellAsTheyBuy 3 (some .boolean) d kc ks 10 [some (.ref 16), some (.int u1), some (.int s2)] [] n S I J R Q := by
  unfold f_X4_allSellAsTheyBuy_l10 at hf
  refine AW_iload_n2 dX4_allSellAsTheyBuy_10 ?_
  refine AW_aload_n0 dX4_allSellAsTheyBuy_11 ?_
  refine AW_getI dX4_allSellAsTheyBuy_12 kf_X4_19 rfl (hL.1 16 (by decide)) (by decide) ?_
  refine AW_icmp_ge 69 dX4_allSellAsTheyBuy_15 (by decide) (fun h1 => ?_) (fun h1 => ?_)
  · replace hf := rk_it hf h1
    refine AW_sb (rk_sbs (rk_sbs (rk_sbs rk_sb0))) ?_
    exact he _ _ (Option.some.inj hf).symm
  · replace hf := rk_if hf h1
    refine AW_aload_n0 dX4_allSellAsTheyBuy_18 ?_
    refine AW_iload_n1 dX4_allSellAsTheyBuy_19 ?_
    refine AW_iload_n2 dX4_allSellAsTheyBuy_20 ?_
    replace hf := rk_bd hf
    obtain ⟨x1, e1, hf⟩ := hf
    refine AW_iV2iz (w_X4_has (d := 0) e1) dX4_allSellAsTheyBuy_21 kl_X4_37 (hL.1 16 (by decide)) rfl (Nat.le_trans (by decide) hd) (by decide) (Nat.le_of_ble_eq_true rfl) (fun _ => ?_)
    refine AW_if_eq 63 dX4_allSellAsTheyBuy_24 (by decide) (fun h2 => ?_) (fun h2 => ?_)
    · replace hf := rk_it hf h2
      refine AW_iinc_2 (v := 1) dX4_allSellAsTheyBuy_63 (by decide) (by decide) rfl ?_
      refine AW_goto 10 dX4_allSellAsTheyBuy_66 (by decide) ?_
      refine AW_sb (rk_sbs (rk_sbs (rk_sbs rk_sb0))) ?_
      exact hc _ _ (Option.some.inj hf).symm
    · replace hf := rk_if hf h2
      refine AW_aload_n0 dX4_allSellAsTheyBuy_27 ?_
      refine AW_getR dX4_allSellAsTheyBuy_28 kf_X4_9 rfl (hL.1 16 (by decide)) (by decide) (hL.2 16 0 17 rfl) ?_
      refine AW_aload_n0 dX4_allSellAsTheyBuy_31 ?_
      replace hf := rk_bd hf
      obtain ⟨_, e2, hf⟩ := hf
      have e2 := rk_ckR_sp e2
      refine AW_getR dX4_allSellAsTheyBuy_32 kf_X4_15 rfl (hL.1 16 (by decide)) (by decide) e2 ?_
      refine AW_iload_n2 dX4_allSellAsTheyBuy_35 ?_
      replace hf := rk_bd hf
      obtain ⟨q1, e3, hf⟩ := hf
      refine AW_rdR dX4_allSellAsTheyBuy_36 (hL.1 2 (by decide)) (by decide) e3 ?_
      replace hf := rk_bd hf
      obtain ⟨o1, e4, hf⟩ := hf
      obtain ⟨e4, hS1⟩ := rk_dr_sp e4
      subst e4
      refine AW_getI dX4_allSellAsTheyBuy_37 kf_X4_52 rfl hS1 (by decide) ?_
      refine AW_dup2 dX4_allSellAsTheyBuy_40 rfl rfl ?_
      replace hf := rk_bd hf
      obtain ⟨x2, e5, hf⟩ := hf
      refine AW_rd dX4_allSellAsTheyBuy_41 (hL.1 17 (by decide)) e5 ?_
      refine AW_iconst (v := 1) dX4_allSellAsTheyBuy_42 (by decide) ?_
      refine AW_iadd dX4_allSellAsTheyBuy_43 ?_
      replace hf := rk_bd hf
      obtain ⟨I1, e6, hf⟩ := hf
      refine AW_wr dX4_allSellAsTheyBuy_44 (hL.1 17 (by decide)) e6 ?_
      refine AW_aload_n0 dX4_allSellAsTheyBuy_45 ?_
      refine AW_getR dX4_allSellAsTheyBuy_46 kf_X4_9 rfl (hL.1 16 (by decide)) (by decide) (hL.2 16 0 17 rfl) ?_
      refine AW_aload_n0 dX4_allSellAsTheyBuy_49 ?_
      replace hf := rk_bd hf
      obtain ⟨_, e7, hf⟩ := hf
      have e7 := rk_ckR_sp e7
      refine AW_getR dX4_allSellAsTheyBuy_50 kf_X4_15 rfl (hL.1 16 (by decide)) (by decide) e7 ?_
      refine AW_iload_n2 dX4_allSellAsTheyBuy_53 ?_
      refine AW_rdR (q := (some o1)) dX4_allSellAsTheyBuy_54 (hL.1 2 (by decide)) (by decide) e3 ?_
      refine AW_getI dX4_allSellAsTheyBuy_55 kf_X4_55 rfl hS1 (by decide) ?_
      refine AW_dup2 dX4_allSellAsTheyBuy_58 rfl rfl ?_
      replace hf := rk_bd hf
      obtain ⟨x3, e8, hf⟩ := hf
      refine AW_rd dX4_allSellAsTheyBuy_59 (hL.1 17 (by decide)) e8 ?_
      refine AW_iconst (v := 1) dX4_allSellAsTheyBuy_60 (by decide) ?_
      refine AW_isub dX4_allSellAsTheyBuy_61 ?_
      replace hf := rk_bd hf
      obtain ⟨I2, e9, hf⟩ := hf
      refine AW_wr dX4_allSellAsTheyBuy_62 (hL.1 17 (by decide)) e9 ?_
      refine AW_iinc_2 (v := 1) dX4_allSellAsTheyBuy_63 (by decide) (by decide) rfl ?_
      refine AW_goto 10 dX4_allSellAsTheyBuy_66 (by decide) ?_
      refine AW_sb (rk_sbs (rk_sbs (rk_sbs rk_sb0))) ?_
      exact hc _ _ (Option.some.inj hf).symm
theorem L_X4_allSellAsTheyBuy_w10 {G : rk_G} {l : Launch} {d kc ks : Nat} {n : Nat} {S : rk_Sh} {J : rk_J} {R : rk_R} {Q : rk_Q} {u1 : Int32} {r : Int32 × rk_I} (hd : 1 ≤ d) (hL : rk_LC S R) (he : ∀ (w0 : Int32) (I9 : rk_I), r = (w0, I9) → AW G l yX4_allSellAsTheyBuy cX4_allSellAsTheyBuy 3 (some .boolean) d kc ks 69 [some (.ref 16), some (.int u1), some (.int w0)] [] n S I9 J R Q) :
    ∀ (m9 : Nat) (s2 : Int32) (I : rk_I), rk_loop (fun a9 => f_X4_allSellAsTheyBuy_l10 S a9.2 R u1 a9.1) m9 (s2, I) = some r → AW G l yX4_allSellAsTheyBuy cX4_allSellAsTheyBuy 3 (some .boolean) d kc ks 10 [some (.ref 16), some (.int u1), some (.int s2)] [] n S I J R Q := by
  intro m9
  induction m9 with
  | zero => intro s2 I hf; cases hf
  | succ m9 ih =>
    intro s2 I hf 
    obtain ⟨r9, hf, hr⟩ := rk_loop_s hf
    exact b_X4_allSellAsTheyBuy_l10 hd hL hf (fun _ _ h9 => by subst h9; exact ih _ _ hr) (fun _ _ h9 => by subst h9; exact he _ _ hr.symm)
noncomputable def f_X4_allSellAsTheyBuy_l71 (S : rk_Sh) (I : rk_I) (R : rk_R) (s2 : Int32) : Option ((Int32) ⊕ ((Int32) ⊕ (Int32 × rk_I))) :=
if 10 ≤ s2 then (
some (.inr (.inl s2))) else (
(rk_rd I 17 10 s2).bind fun x1 =>
if x1 = 0 then (
some (.inl (s2 + 1))) else (
some (.inr (.inr (0, I)))))
theorem b_X4_allSellAsTheyBuy_l71 {G : rk_G} {l : Launch} {d kc ks : Nat} {n : Nat} {S : rk_Sh} {I : rk_I} {J : rk_J} {R : rk_R} {Q : rk_Q} {s2 : Int32} {r : (Int32) ⊕ ((Int32) ⊕ (Int32 × rk_I))} (hd : 1 ≤ d) (hL : rk_LC S R) (hf : f_X4_allSellAsTheyBuy_l71 S I R s2 = some r) (hc : ∀ (w0 : Int32), r = .inl w0 → AW G l yX4_allSellAsTheyBuy cX4_allSellAsTheyBuy 3 (some .boolean) d kc ks 71 [some (.ref 16), none, some (.int w0)] [] n S I J R Q) (he : ∀ (w0 : Int32), r = .inr (.inl w0) → AW G l yX4_allSellAsTheyBuy cX4_allSellAsTheyBuy 3 (some .boolean) d kc ks 94 [some (.ref 16), none, some (.int w0)] [] n S I J R Q) (hq : ∀ (v9 : Int32) (I9 : rk_I), r = .inr (.inr (v9, I9)) → Q (some (.int v9)) n S I9 J R) :
    AW G l yX4_allSellAsTheyBuy cX4_allSellAsTheyBuy 3 (some .boolean) d kc ks 71 [some (.ref 16), none, some (.int s2)] [] n S I J R Q := by
  unfold f_X4_allSellAsTheyBuy_l71 at hf
  refine AW_iload_n2 dX4_allSellAsTheyBuy_71 ?_
  refine AW_bipush (v := 10) dX4_allSellAsTheyBuy_72 (by decide) ?_
  refine AW_icmp_ge 94 dX4_allSellAsTheyBuy_74 (by decide) (fun h1 => ?_) (fun h1 => ?_)
  · replace hf := rk_it hf h1
    refine AW_sb (rk_sbs (rk_sbn (rk_sbs rk_sb0))) ?_
    exact he _ (Option.some.inj hf).symm
  · replace hf := rk_if hf h1
    refine AW_aload_n0 dX4_allSellAsTheyBuy_77 ?_
    refine AW_getR dX4_allSellAsTheyBuy_78 kf_X4_9 rfl (hL.1 16 (by decide)) (by decide) (hL.2 16 0 17 rfl) ?_
    refine AW_iload_n2 dX4_allSellAsTheyBuy_81 ?_
    replace hf := rk_bd hf
    obtain ⟨x1, e1, hf⟩ := hf
    refine AW_rd dX4_allSellAsTheyBuy_82 (hL.1 17 (by decide)) e1 ?_
    refine AW_if_eq 88 dX4_allSellAsTheyBuy_83 (by decide) (fun h2 => ?_) (fun h2 => ?_)
    · replace hf := rk_it hf h2
      refine AW_iinc_2 (v := 1) dX4_allSellAsTheyBuy_88 (by decide) (by decide) rfl ?_
      refine AW_goto 71 dX4_allSellAsTheyBuy_91 (by decide) ?_
      refine AW_sb (rk_sbs (rk_sbn (rk_sbs rk_sb0))) ?_
      exact hc _ (Option.some.inj hf).symm
    · replace hf := rk_if hf h2
      refine AW_iconst (v := 0) dX4_allSellAsTheyBuy_86 (by decide) ?_
      exact AW_zret dX4_allSellAsTheyBuy_87 rfl rfl (hq _ _ (Option.some.inj hf).symm)
theorem L_X4_allSellAsTheyBuy_w71 {G : rk_G} {l : Launch} {d kc ks : Nat} {n : Nat} {S : rk_Sh} {I : rk_I} {J : rk_J} {R : rk_R} {Q : rk_Q}  {r : (Int32) ⊕ (Int32 × rk_I)} (hd : 1 ≤ d) (hL : rk_LC S R) (he : ∀ (w0 : Int32), r = .inl w0 → AW G l yX4_allSellAsTheyBuy cX4_allSellAsTheyBuy 3 (some .boolean) d kc ks 94 [some (.ref 16), none, some (.int w0)] [] n S I J R Q) (hq : ∀ (v9 : Int32) (I9 : rk_I), r = .inr (v9, I9) → Q (some (.int v9)) n S I9 J R) :
    ∀ (m9 : Nat) (s2 : Int32) , rk_loop (fun a9 => f_X4_allSellAsTheyBuy_l71 S I R a9) m9 s2 = some r → AW G l yX4_allSellAsTheyBuy cX4_allSellAsTheyBuy 3 (some .boolean) d kc ks 71 [some (.ref 16), none, some (.int s2)] [] n S I J R Q := by
  intro m9
  induction m9 with
  | zero => intro s2 hf; cases hf
  | succ m9 ih =>
    intro s2 hf 
    obtain ⟨r9, hf, hr⟩ := rk_loop_s hf
    exact b_X4_allSellAsTheyBuy_l71 hd hL hf (fun _ h9 => by subst h9; exact ih _ hr) (fun _ h9 => by subst h9; exact he _ hr.symm) (fun _ _ h9 => by subst h9; exact hq _ _ hr.symm)
noncomputable def f_X4_allSellAsTheyBuy (S : rk_Sh) (I : rk_I) (R : rk_R) (a1 : Int32) : Option (Int32 × rk_I) :=
(f_J7_fill_53178_17 I 0).bind fun I1 =>
rk_b2 (rk_while (fun a9 => f_X4_allSellAsTheyBuy_l10 S a9.2 R a1 a9.1) (0, I1)) fun x1 I2 =>
(rk_while (fun a9 => f_X4_allSellAsTheyBuy_l71 S I2 R a9) 0).bind fun q9 => rk_sc q9 (fun b9 => rk_p1 b9 (fun x2 => (
some (1, I2)))) (fun q8 => some q8)
theorem b_X4_allSellAsTheyBuy {G : rk_G} {l : Launch} {d kc ks : Nat} {n : Nat} {S : rk_Sh} {I : rk_I} {J : rk_J} {R : rk_R} {Q : rk_Q} {a1 : Int32} {r : Int32 × rk_I} (hd : 1 ≤ d) (hL : rk_LC S R) (hf : f_X4_allSellAsTheyBuy S I R a1 = some r) (hq : ∀ (v9 : Int32) (I9 : rk_I), r = (v9, I9) → Q (some (.int v9)) n S I9 J R) :
    AW G l yX4_allSellAsTheyBuy cX4_allSellAsTheyBuy 3 (some .boolean) d kc ks 0 [some (.ref 16), some (.int a1), none] [] n S I J R Q := by
  unfold f_X4_allSellAsTheyBuy at hf
  refine AW_aload_n0 dX4_allSellAsTheyBuy_0 ?_
  refine AW_getR dX4_allSellAsTheyBuy_1 kf_X4_9 rfl (hL.1 16 (by decide)) (by decide) (hL.2 16 0 17 rfl) ?_
  refine AW_iconst (v := 0) dX4_allSellAsTheyBuy_4 (by decide) ?_
  replace hf := rk_bd hf
  obtain ⟨I1, e1, hf⟩ := hf
  refine AW_iS2vz (w_J7_fill_53178_17 (d := 0) hL e1) dX4_allSellAsTheyBuy_5 kl_X4_46 (Nat.le_trans (by decide) hd) (by decide) (Nat.le_of_ble_eq_true rfl) (fun _ => ?_)
  refine AW_iconst (v := 0) dX4_allSellAsTheyBuy_8 (by decide) ?_
  refine AW_istore_n2 dX4_allSellAsTheyBuy_9 (by decide) rfl ?_
  refine AW_sb (rk_sbs (rk_sbs (rk_sbs rk_sb0))) ?_
  replace hf := rk_bd2 hf
  obtain ⟨x1, I2, e2, hf⟩ := hf
  obtain ⟨m1, e2⟩ := rk_while_sp e2
  refine L_X4_allSellAsTheyBuy_w10 (Nat.le_trans (by decide) hd) hL ?_ m1 _ _ e2
  intro x1 I2 h9
  cases h9
  refine AW_iconst (v := 0) dX4_allSellAsTheyBuy_69 (by decide) ?_
  refine AW_istore_n2 dX4_allSellAsTheyBuy_70 (by decide) rfl ?_
  refine AW_sb (rk_sbs (rk_sbn (rk_sbs rk_sb0))) ?_
  replace hf := rk_bd hf
  obtain ⟨q9, e3, hf⟩ := hf
  obtain ⟨m2, e3⟩ := rk_while_sp e3
  refine L_X4_allSellAsTheyBuy_w71 (Nat.le_trans (by decide) hd) hL ?_ ?_ m2 _ e3
  · intro x2 h9
    subst h9
    replace hf := rk_scp1 hf
    refine AW_iconst (v := 1) dX4_allSellAsTheyBuy_94 (by decide) ?_
    exact AW_zret dX4_allSellAsTheyBuy_95 rfl rfl (hq _ _ (Option.some.inj hf).symm)
  · intro v7 I7 h9
    subst h9
    replace hf := rk_sc_r hf
    exact hq _ _ (Option.some.inj hf).symm
theorem w_X4_allSellAsTheyBuy {G : rk_G} {l : Launch} {d : Nat} {n : Nat} {S : rk_Sh} {I : rk_I} {J : rk_J} {R : rk_R} {a1 : Int32} {v8 : Int32} {I8 : rk_I} (hd : 1 ≤ d) (hL : rk_LC S R) (hf : f_X4_allSellAsTheyBuy S I R a1 = some (v8, I8)) :
    CW G l yX4_allSellAsTheyBuy cX4_allSellAsTheyBuy 3 (some .boolean) d 0 0 [.ref 16, .int a1] n S I J R (rk_qi v8 n S I8 J R True) :=
  CW.of (by decide +kernel) (Nat.le_of_ble_eq_true rfl) (rk_sbs (rk_sbs (rk_sbe rk_sb0))) (b_X4_allSellAsTheyBuy hd hL hf (fun v9 I9 h9 => by cases h9; exact ⟨rfl, rfl, rfl, rfl, rfl, rfl, trivial⟩))
noncomputable def f_X4_handsReached_j54 (S : rk_Sh) (I : rk_I) (R : rk_R) (u1 : Int32) (j2 : Int32) (u3 : Int32) (j4 : Int32) : Option ((Int32 × Int32) ⊕ (Int32 × Int32)) :=
(rk_ckR R 16 1 2).bind fun _ =>
(rk_rdR R 2 24 j4).bind fun q1 =>
(rk_dr S 5 11 q1).bind fun o1 =>
(rk_ckR R 16 1 2).bind fun _ =>
some (.inl ((j2 ||| ((1 <<< ((I o1 2) &&& 31)) ||| (1 <<< ((I o1 3) &&& 31)))), (j4 + 1)))
theorem b_X4_handsReached_j54 {G : rk_G} {l : Launch} {d kc ks : Nat} {n : Nat} {S : rk_Sh} {I : rk_I} {J : rk_J} {R : rk_R} {Q : rk_Q} {u1 : Int32} {j2 : Int32} {u3 : Int32} {j4 : Int32} {r : (Int32 × Int32) ⊕ (Int32 × Int32)} (hd : 1 ≤ d) (hL : rk_LC S R) (hf : f_X4_handsReached_j54 S I R u1 j2 u3 j4 = some r) (hc : ∀ (w0 : Int32) (w1 : Int32), r = .inl (w0, w1) → AW G l yX4_handsReached cX4_handsReached 5 (some .int) d kc ks 13 [some (.ref 16), some (.int u1), some (.int w0), some (.int u3), some (.int w1)] [] n S I J R Q) (he : ∀ (w0 : Int32) (w1 : Int32), r = .inr (w0, w1) → AW G l yX4_handsReached cX4_handsReached 5 (some .int) d kc ks 88 [some (.ref 16), some (.int u1), some (.int w0), some (.int u3), some (.int w1)] [] n S I J R Q) :
    AW G l yX4_handsReached cX4_handsReached 5 (some .int) d kc ks 54 [some (.ref 16), some (.int u1), some (.int j2), some (.int u3), some (.int j4)] [] n S I J R Q := by
  unfold f_X4_handsReached_j54 at hf
  refine AW_iload_n2 dX4_handsReached_54 ?_
  refine AW_iconst (v := 1) dX4_handsReached_55 (by decide) ?_
  refine AW_aload_n0 dX4_handsReached_56 ?_
  replace hf := rk_bd hf
  obtain ⟨_, e1, hf⟩ := hf
  have e1 := rk_ckR_sp e1
  refine AW_getR dX4_handsReached_57 kf_X4_15 rfl (hL.1 16 (by decide)) (by decide) e1 ?_
  refine AW_iload_4 dX4_handsReached_60 ?_
  replace hf := rk_bd hf
  obtain ⟨q1, e2, hf⟩ := hf
  refine AW_rdR dX4_handsReached_62 (hL.1 2 (by decide)) (by decide) e2 ?_
  replace hf := rk_bd hf
  obtain ⟨o1, e3, hf⟩ := hf
  obtain ⟨e3, hS1⟩ := rk_dr_sp e3
  subst e3
  refine AW_getI dX4_handsReached_63 kf_X4_52 rfl hS1 (by decide) ?_
  refine AW_ishl dX4_handsReached_66 ?_
  refine AW_iconst (v := 1) dX4_handsReached_67 (by decide) ?_
  refine AW_aload_n0 dX4_handsReached_68 ?_
  replace hf := rk_bd hf
  obtain ⟨_, e4, hf⟩ := hf
  have e4 := rk_ckR_sp e4
  refine AW_getR dX4_handsReached_69 kf_X4_15 rfl (hL.1 16 (by decide)) (by decide) e4 ?_
  refine AW_iload_4 dX4_handsReached_72 ?_
  refine AW_rdR (q := (some o1)) dX4_handsReached_74 (hL.1 2 (by decide)) (by decide) e2 ?_
  refine AW_getI dX4_handsReached_75 kf_X4_55 rfl hS1 (by decide) ?_
  refine AW_ishl dX4_handsReached_78 ?_
  refine AW_ior dX4_handsReached_79 ?_
  refine AW_ior dX4_handsReached_80 ?_
  refine AW_istore_n2 dX4_handsReached_81 (by decide) rfl ?_
  refine AW_iinc_4 (v := 1) dX4_handsReached_82 (by decide) (by decide) rfl ?_
  refine AW_goto 13 dX4_handsReached_85 (by decide) ?_
  refine AW_sb (rk_sbs (rk_sbs (rk_sbs (rk_sbs (rk_sbs rk_sb0))))) ?_
  exact hc _ _ (Option.some.inj hf).symm
noncomputable def f_X4_handsReached_l13 (S : rk_Sh) (I : rk_I) (R : rk_R) (u1 : Int32) (s2 : Int32) (u3 : Int32) (s4 : Int32) : Option ((Int32 × Int32) ⊕ (Int32 × Int32)) :=
if (I 16 2) ≤ s4 then (
some (.inr (s2, s4))) else (
(f_X4_has u1 s4).bind fun x1 =>
if x1 = 0 then (
some (.inl (s2, (s4 + 1)))) else (
if s2 = 0 then (
f_X4_handsReached_j54 S I R u1 s2 u3 s4) else (
(rk_ckR R 16 1 2).bind fun _ =>
(rk_rdR R 2 24 s4).bind fun q1 =>
(rk_dr S 5 11 q1).bind fun o1 =>
(f_X4_has s2 (I o1 2)).bind fun x2 =>
if x2 = 0 then (
some (.inl (s2, (s4 + 1)))) else (
f_X4_handsReached_j54 S I R u1 s2 u3 s4))))
theorem b_X4_handsReached_l13 {G : rk_G} {l : Launch} {d kc ks : Nat} {n : Nat} {S : rk_Sh} {I : rk_I} {J : rk_J} {R : rk_R} {Q : rk_Q} {u1 : Int32} {s2 : Int32} {u3 : Int32} {s4 : Int32} {r : (Int32 × Int32) ⊕ (Int32 × Int32)} (hd : 1 ≤ d) (hL : rk_LC S R) (hf : f_X4_handsReached_l13 S I R u1 s2 u3 s4 = some r) (hc : ∀ (w0 : Int32) (w1 : Int32), r = .inl (w0, w1) → AW G l yX4_handsReached cX4_handsReached 5 (some .int) d kc ks 13 [some (.ref 16), some (.int u1), some (.int w0), some (.int u3), some (.int w1)] [] n S I J R Q) (he : ∀ (w0 : Int32) (w1 : Int32), r = .inr (w0, w1) → AW G l yX4_handsReached cX4_handsReached 5 (some .int) d kc ks 88 [some (.ref 16), some (.int u1), some (.int w0), some (.int u3), some (.int w1)] [] n S I J R Q) :
    AW G l yX4_handsReached cX4_handsReached 5 (some .int) d kc ks 13 [some (.ref 16), some (.int u1), some (.int s2), some (.int u3), some (.int s4)] [] n S I J R Q := by
  unfold f_X4_handsReached_l13 at hf
  refine AW_iload_4 dX4_handsReached_13 ?_
  refine AW_aload_n0 dX4_handsReached_15 ?_
  refine AW_getI dX4_handsReached_16 kf_X4_19 rfl (hL.1 16 (by decide)) (by decide) ?_
  refine AW_icmp_ge 88 dX4_handsReached_19 (by decide) (fun h1 => ?_) (fun h1 => ?_)
  · replace hf := rk_it hf h1
    refine AW_sb (rk_sbs (rk_sbs (rk_sbs (rk_sbs (rk_sbs rk_sb0))))) ?_
    exact he _ _ (Option.some.inj hf).symm
  · replace hf := rk_if hf h1
    refine AW_aload_n0 dX4_handsReached_22 ?_
    refine AW_iload_n1 dX4_handsReached_23 ?_
    refine AW_iload_4 dX4_handsReached_24 ?_
    replace hf := rk_bd hf
    obtain ⟨x1, e1, hf⟩ := hf
    refine AW_iV2iz (w_X4_has (d := 0) e1) dX4_handsReached_26 kl_X4_37 (hL.1 16 (by decide)) rfl (Nat.le_trans (by decide) hd) (by decide) (Nat.le_of_ble_eq_true rfl) (fun _ => ?_)
    refine AW_if_eq 82 dX4_handsReached_29 (by decide) (fun h2 => ?_) (fun h2 => ?_)
    · replace hf := rk_it hf h2
      refine AW_iinc_4 (v := 1) dX4_handsReached_82 (by decide) (by decide) rfl ?_
      refine AW_goto 13 dX4_handsReached_85 (by decide) ?_
      refine AW_sb (rk_sbs (rk_sbs (rk_sbs (rk_sbs (rk_sbs rk_sb0))))) ?_
      exact hc _ _ (Option.some.inj hf).symm
    · replace hf := rk_if hf h2
      refine AW_iload_n2 dX4_handsReached_32 ?_
      refine AW_if_eq 54 dX4_handsReached_33 (by decide) (fun h3 => ?_) (fun h3 => ?_)
      · replace hf := rk_it hf h3
        refine AW_sb (rk_sbs (rk_sbs (rk_sbs (rk_sbs (rk_sbs rk_sb0))))) ?_
        exact b_X4_handsReached_j54 (Nat.le_trans (by decide) hd) hL hf hc he
      · replace hf := rk_if hf h3
        refine AW_aload_n0 dX4_handsReached_36 ?_
        refine AW_iload_n2 dX4_handsReached_37 ?_
        refine AW_aload_n0 dX4_handsReached_38 ?_
        replace hf := rk_bd hf
        obtain ⟨_, e2, hf⟩ := hf
        have e2 := rk_ckR_sp e2
        refine AW_getR dX4_handsReached_39 kf_X4_15 rfl (hL.1 16 (by decide)) (by decide) e2 ?_
        refine AW_iload_4 dX4_handsReached_42 ?_
        replace hf := rk_bd hf
        obtain ⟨q1, e3, hf⟩ := hf
        refine AW_rdR dX4_handsReached_44 (hL.1 2 (by decide)) (by decide) e3 ?_
        replace hf := rk_bd hf
        obtain ⟨o1, e4, hf⟩ := hf
        obtain ⟨e4, hS1⟩ := rk_dr_sp e4
        subst e4
        refine AW_getI dX4_handsReached_45 kf_X4_52 rfl hS1 (by decide) ?_
        replace hf := rk_bd hf
        obtain ⟨x2, e5, hf⟩ := hf
        refine AW_iV2iz (w_X4_has (d := 0) e5) dX4_handsReached_48 kl_X4_37 (hL.1 16 (by decide)) rfl (Nat.le_trans (by decide) hd) (by decide) (Nat.le_of_ble_eq_true rfl) (fun _ => ?_)
        refine AW_if_eq 82 dX4_handsReached_51 (by decide) (fun h4 => ?_) (fun h4 => ?_)
        · replace hf := rk_it hf h4
          refine AW_iinc_4 (v := 1) dX4_handsReached_82 (by decide) (by decide) rfl ?_
          refine AW_goto 13 dX4_handsReached_85 (by decide) ?_
          refine AW_sb (rk_sbs (rk_sbs (rk_sbs (rk_sbs (rk_sbs rk_sb0))))) ?_
          exact hc _ _ (Option.some.inj hf).symm
        · replace hf := rk_if hf h4
          refine AW_sb (rk_sbs (rk_sbs (rk_sbs (rk_sbs (rk_sbs rk_sb0))))) ?_
          exact b_X4_handsReached_j54 (Nat.le_trans (by decide) hd) hL hf hc he
theorem L_X4_handsReached_w13 {G : rk_G} {l : Launch} {d kc ks : Nat} {n : Nat} {S : rk_Sh} {I : rk_I} {J : rk_J} {R : rk_R} {Q : rk_Q} {u1 : Int32} {u3 : Int32} {r : Int32 × Int32} (hd : 1 ≤ d) (hL : rk_LC S R) (he : ∀ (w0 : Int32) (w1 : Int32), r = (w0, w1) → AW G l yX4_handsReached cX4_handsReached 5 (some .int) d kc ks 88 [some (.ref 16), some (.int u1), some (.int w0), some (.int u3), some (.int w1)] [] n S I J R Q) :
    ∀ (m9 : Nat) (s2 : Int32) (s4 : Int32) , rk_loop (fun a9 => f_X4_handsReached_l13 S I R u1 a9.1 u3 a9.2) m9 (s2, s4) = some r → AW G l yX4_handsReached cX4_handsReached 5 (some .int) d kc ks 13 [some (.ref 16), some (.int u1), some (.int s2), some (.int u3), some (.int s4)] [] n S I J R Q := by
  intro m9
  induction m9 with
  | zero => intro s2 s4 hf; cases hf
  | succ m9 ih =>
    intro s2 s4 hf 
    obtain ⟨r9, hf, hr⟩ := rk_loop_s hf
    exact b_X4_handsReached_l13 hd hL hf (fun _ _ h9 => by subst h9; exact ih _ _ hr) (fun _ _ h9 => by subst h9; exact he _ _ hr.symm)
noncomputable def f_X4_handsReached_l4 (S : rk_Sh) (I : rk_I) (R : rk_R) (u1 : Int32) (s2 : Int32) (s3 : Int32) : Option ((Int32 × Int32) ⊕ (Int32 × Int32)) :=
if 10 ≤ s3 then (
some (.inr (s2, s3))) else (
rk_b2 (rk_while (fun a9 => f_X4_handsReached_l13 S I R u1 a9.1 s3 a9.2) (s2, 0)) fun x1 x2 =>
some (.inl (x1, (s3 + 1))))
theorem b_X4_handsReached_l4 {G : rk_G} {l : Launch} {d kc ks : Nat} {n : Nat} {S : rk_Sh} {I : rk_I} {J : rk_J} {R : rk_R} {Q : rk_Q} {u1 : Int32} {s2 : Int32} {s3 : Int32} {r : (Int32 × Int32) ⊕ (Int32 × Int32)} (hd : 1 ≤ d) (hL : rk_LC S R) (hf : f_X4_handsReached_l4 S I R u1 s2 s3 = some r) (hc : ∀ (w0 : Int32) (w1 : Int32), r = .inl (w0, w1) → AW G l yX4_handsReached cX4_handsReached 5 (some .int) d kc ks 4 [some (.ref 16), some (.int u1), some (.int w0), some (.int w1), none] [] n S I J R Q) (he : ∀ (w0 : Int32) (w1 : Int32), r = .inr (w0, w1) → AW G l yX4_handsReached cX4_handsReached 5 (some .int) d kc ks 94 [some (.ref 16), some (.int u1), some (.int w0), some (.int w1), none] [] n S I J R Q) :
    AW G l yX4_handsReached cX4_handsReached 5 (some .int) d kc ks 4 [some (.ref 16), some (.int u1), some (.int s2), some (.int s3), none] [] n S I J R Q := by
  unfold f_X4_handsReached_l4 at hf
  refine AW_iload_n3 dX4_handsReached_4 ?_
  refine AW_bipush (v := 10) dX4_handsReached_5 (by decide) ?_
  refine AW_icmp_ge 94 dX4_handsReached_7 (by decide) (fun h1 => ?_) (fun h1 => ?_)
  · replace hf := rk_it hf h1
    refine AW_sb (rk_sbs (rk_sbs (rk_sbs (rk_sbs (rk_sbn rk_sb0))))) ?_
    exact he _ _ (Option.some.inj hf).symm
  · replace hf := rk_if hf h1
    refine AW_iconst (v := 0) dX4_handsReached_10 (by decide) ?_
    refine AW_istore_4 dX4_handsReached_11 (by decide) rfl ?_
    refine AW_sb (rk_sbs (rk_sbs (rk_sbs (rk_sbs (rk_sbs rk_sb0))))) ?_
    replace hf := rk_bd2 hf
    obtain ⟨x1, x2, e1, hf⟩ := hf
    obtain ⟨m1, e1⟩ := rk_while_sp e1
    refine L_X4_handsReached_w13 (Nat.le_trans (by decide) hd) hL ?_ m1 _ _ e1
    intro x1 x2 h9
    cases h9
    refine AW_iinc_3 (v := 1) dX4_handsReached_88 (by decide) (by decide) rfl ?_
    refine AW_goto 4 dX4_handsReached_91 (by decide) ?_
    refine AW_sb (rk_sbs (rk_sbs (rk_sbs (rk_sbs (rk_sbn rk_sb0))))) ?_
    exact hc _ _ (Option.some.inj hf).symm
theorem L_X4_handsReached_w4 {G : rk_G} {l : Launch} {d kc ks : Nat} {n : Nat} {S : rk_Sh} {I : rk_I} {J : rk_J} {R : rk_R} {Q : rk_Q} {u1 : Int32} {r : Int32 × Int32} (hd : 1 ≤ d) (hL : rk_LC S R) (he : ∀ (w0 : Int32) (w1 : Int32), r = (w0, w1) → AW G l yX4_handsReached cX4_handsReached 5 (some .int) d kc ks 94 [some (.ref 16), some (.int u1), some (.int w0), some (.int w1), none] [] n S I J R Q) :
    ∀ (m9 : Nat) (s2 : Int32) (s3 : Int32) , rk_loop (fun a9 => f_X4_handsReached_l4 S I R u1 a9.1 a9.2) m9 (s2, s3) = some r → AW G l yX4_handsReached cX4_handsReached 5 (some .int) d kc ks 4 [some (.ref 16), some (.int u1), some (.int s2), some (.int s3), none] [] n S I J R Q := by
  intro m9
  induction m9 with
  | zero => intro s2 s3 hf; cases hf
  | succ m9 ih =>
    intro s2 s3 hf 
    obtain ⟨r9, hf, hr⟩ := rk_loop_s hf
    exact b_X4_handsReached_l4 hd hL hf (fun _ _ h9 => by subst h9; exact ih _ _ hr) (fun _ _ h9 => by subst h9; exact he _ _ hr.symm)
noncomputable def f_X4_handsReached (S : rk_Sh) (I : rk_I) (R : rk_R) (a1 : Int32) : Option (Int32) :=
rk_b2 (rk_while (fun a9 => f_X4_handsReached_l4 S I R a1 a9.1 a9.2) (0, 0)) fun x1 x2 =>
some x1
theorem b_X4_handsReached {G : rk_G} {l : Launch} {d kc ks : Nat} {n : Nat} {S : rk_Sh} {I : rk_I} {J : rk_J} {R : rk_R} {Q : rk_Q} {a1 : Int32} {r : Int32} (hd : 1 ≤ d) (hL : rk_LC S R) (hf : f_X4_handsReached S I R a1 = some r) (hq : ∀ (v9 : Int32), r = v9 → Q (some (.int v9)) n S I J R) :
    AW G l yX4_handsReached cX4_handsReached 5 (some .int) d kc ks 0 [some (.ref 16), some (.int a1), none, none, none] [] n S I J R Q := by
  unfold f_X4_handsReached at hf
  refine AW_iconst (v := 0) dX4_handsReached_0 (by decide) ?_
  refine AW_istore_n2 dX4_handsReached_1 (by decide) rfl ?_
  refine AW_iconst (v := 0) dX4_handsReached_2 (by decide) ?_
  refine AW_istore_n3 dX4_handsReached_3 (by decide) rfl ?_
  refine AW_sb (rk_sbs (rk_sbs (rk_sbs (rk_sbs (rk_sbn rk_sb0))))) ?_
  replace hf := rk_bd2 hf
  obtain ⟨x1, x2, e1, hf⟩ := hf
  obtain ⟨m1, e1⟩ := rk_while_sp e1
  refine L_X4_handsReached_w4 (Nat.le_trans (by decide) hd) hL ?_ m1 _ _ e1
  intro x1 x2 h9
  cases h9
  refine AW_iload_n2 dX4_handsReached_94 ?_
  exact AW_iret dX4_handsReached_95 rfl (hq _ (Option.some.inj hf).symm)
theorem w_X4_handsReached {G : rk_G} {l : Launch} {d : Nat} {n : Nat} {S : rk_Sh} {I : rk_I} {J : rk_J} {R : rk_R} {a1 : Int32} {v8 : Int32} (hd : 1 ≤ d) (hL : rk_LC S R) (hf : f_X4_handsReached S I R a1 = some v8) :
    CW G l yX4_handsReached cX4_handsReached 5 (some .int) d 0 0 [.ref 16, .int a1] n S I J R (rk_qi v8 n S I J R True) :=
  CW.of (by decide +kernel) (Nat.le_of_ble_eq_true rfl) (rk_sbs (rk_sbs (rk_sbe (rk_sbe (rk_sbe rk_sb0))))) (b_X4_handsReached hd hL hf (fun v9 h9 => by cases h9; exact ⟨rfl, rfl, rfl, rfl, rfl, rfl, trivial⟩))
noncomputable def f_X4_handsIn_l4 (S : rk_Sh) (I : rk_I) (R : rk_R) (u1 : Int32) (s2 : Int32) (s3 : Int32) : Option ((Int32 × Int32) ⊕ (Int32 × Int32)) :=
if (I 16 2) ≤ s3 then (
some (.inr (s2, s3))) else (
(f_X4_has u1 s3).bind fun x1 =>
if x1 = 0 then (
some (.inl (s2, (s3 + 1)))) else (
(rk_ckR R 16 1 2).bind fun _ =>
(rk_rdR R 2 24 s3).bind fun q1 =>
(rk_dr S 5 11 q1).bind fun o1 =>
(rk_ckR R 16 1 2).bind fun _ =>
some (.inl ((s2 ||| ((1 <<< ((I o1 2) &&& 31)) ||| (1 <<< ((I o1 3) &&& 31)))), (s3 + 1)))))
theorem b_X4_handsIn_l4 {G : rk_G} {l : Launch} {d kc ks : Nat} {n : Nat} {S : rk_Sh} {I : rk_I} {J : rk_J} {R : rk_R} {Q : rk_Q} {u1 : Int32} {s2 : Int32} {s3 : Int32} {r : (Int32 × Int32) ⊕ (Int32 × Int32)} (hd : 1 ≤ d) (hL : rk_LC S R) (hf : f_X4_handsIn_l4 S I R u1 s2 s3 = some r) (hc : ∀ (w0 : Int32) (w1 : Int32), r = .inl (w0, w1) → AW G l yX4_handsIn cX4_handsIn 4 (some .int) d kc ks 4 [some (.ref 16), some (.int u1), some (.int w0), some (.int w1)] [] n S I J R Q) (he : ∀ (w0 : Int32) (w1 : Int32), r = .inr (w0, w1) → AW G l yX4_handsIn cX4_handsIn 4 (some .int) d kc ks 53 [some (.ref 16), some (.int u1), some (.int w0), some (.int w1)] [] n S I J R Q) :
    AW G l yX4_handsIn cX4_handsIn 4 (some .int) d kc ks 4 [some (.ref 16), some (.int u1), some (.int s2), some (.int s3)] [] n S I J R Q := by
  unfold f_X4_handsIn_l4 at hf
  refine AW_iload_n3 dX4_handsIn_4 ?_
  refine AW_aload_n0 dX4_handsIn_5 ?_
  refine AW_getI dX4_handsIn_6 kf_X4_19 rfl (hL.1 16 (by decide)) (by decide) ?_
  refine AW_icmp_ge 53 dX4_handsIn_9 (by decide) (fun h1 => ?_) (fun h1 => ?_)
  · replace hf := rk_it hf h1
    refine AW_sb (rk_sbs (rk_sbs (rk_sbs (rk_sbs rk_sb0)))) ?_
    exact he _ _ (Option.some.inj hf).symm
  · replace hf := rk_if hf h1
    refine AW_aload_n0 dX4_handsIn_12 ?_
    refine AW_iload_n1 dX4_handsIn_13 ?_
    refine AW_iload_n3 dX4_handsIn_14 ?_
    replace hf := rk_bd hf
    obtain ⟨x1, e1, hf⟩ := hf
    refine AW_iV2iz (w_X4_has (d := 0) e1) dX4_handsIn_15 kl_X4_37 (hL.1 16 (by decide)) rfl (Nat.le_trans (by decide) hd) (by decide) (Nat.le_of_ble_eq_true rfl) (fun _ => ?_)
    refine AW_if_eq 47 dX4_handsIn_18 (by decide) (fun h2 => ?_) (fun h2 => ?_)
    · replace hf := rk_it hf h2
      refine AW_iinc_3 (v := 1) dX4_handsIn_47 (by decide) (by decide) rfl ?_
      refine AW_goto 4 dX4_handsIn_50 (by decide) ?_
      refine AW_sb (rk_sbs (rk_sbs (rk_sbs (rk_sbs rk_sb0)))) ?_
      exact hc _ _ (Option.some.inj hf).symm
    · replace hf := rk_if hf h2
      refine AW_iload_n2 dX4_handsIn_21 ?_
      refine AW_iconst (v := 1) dX4_handsIn_22 (by decide) ?_
      refine AW_aload_n0 dX4_handsIn_23 ?_
      replace hf := rk_bd hf
      obtain ⟨_, e2, hf⟩ := hf
      have e2 := rk_ckR_sp e2
      refine AW_getR dX4_handsIn_24 kf_X4_15 rfl (hL.1 16 (by decide)) (by decide) e2 ?_
      refine AW_iload_n3 dX4_handsIn_27 ?_
      replace hf := rk_bd hf
      obtain ⟨q1, e3, hf⟩ := hf
      refine AW_rdR dX4_handsIn_28 (hL.1 2 (by decide)) (by decide) e3 ?_
      replace hf := rk_bd hf
      obtain ⟨o1, e4, hf⟩ := hf
      obtain ⟨e4, hS1⟩ := rk_dr_sp e4
      subst e4
      refine AW_getI dX4_handsIn_29 kf_X4_52 rfl hS1 (by decide) ?_
      refine AW_ishl dX4_handsIn_32 ?_
      refine AW_iconst (v := 1) dX4_handsIn_33 (by decide) ?_
      refine AW_aload_n0 dX4_handsIn_34 ?_
      replace hf := rk_bd hf
      obtain ⟨_, e5, hf⟩ := hf
      have e5 := rk_ckR_sp e5
      refine AW_getR dX4_handsIn_35 kf_X4_15 rfl (hL.1 16 (by decide)) (by decide) e5 ?_
      refine AW_iload_n3 dX4_handsIn_38 ?_
      refine AW_rdR (q := (some o1)) dX4_handsIn_39 (hL.1 2 (by decide)) (by decide) e3 ?_
      refine AW_getI dX4_handsIn_40 kf_X4_55 rfl hS1 (by decide) ?_
      refine AW_ishl dX4_handsIn_43 ?_
      refine AW_ior dX4_handsIn_44 ?_
      refine AW_ior dX4_handsIn_45 ?_
      refine AW_istore_n2 dX4_handsIn_46 (by decide) rfl ?_
      refine AW_iinc_3 (v := 1) dX4_handsIn_47 (by decide) (by decide) rfl ?_
      refine AW_goto 4 dX4_handsIn_50 (by decide) ?_
      refine AW_sb (rk_sbs (rk_sbs (rk_sbs (rk_sbs rk_sb0)))) ?_
      exact hc _ _ (Option.some.inj hf).symm
theorem L_X4_handsIn_w4 {G : rk_G} {l : Launch} {d kc ks : Nat} {n : Nat} {S : rk_Sh} {I : rk_I} {J : rk_J} {R : rk_R} {Q : rk_Q} {u1 : Int32} {r : Int32 × Int32} (hd : 1 ≤ d) (hL : rk_LC S R) (he : ∀ (w0 : Int32) (w1 : Int32), r = (w0, w1) → AW G l yX4_handsIn cX4_handsIn 4 (some .int) d kc ks 53 [some (.ref 16), some (.int u1), some (.int w0), some (.int w1)] [] n S I J R Q) :
    ∀ (m9 : Nat) (s2 : Int32) (s3 : Int32) , rk_loop (fun a9 => f_X4_handsIn_l4 S I R u1 a9.1 a9.2) m9 (s2, s3) = some r → AW G l yX4_handsIn cX4_handsIn 4 (some .int) d kc ks 4 [some (.ref 16), some (.int u1), some (.int s2), some (.int s3)] [] n S I J R Q := by
  intro m9
  induction m9 with
  | zero => intro s2 s3 hf; cases hf
  | succ m9 ih =>
    intro s2 s3 hf 
    obtain ⟨r9, hf, hr⟩ := rk_loop_s hf
    exact b_X4_handsIn_l4 hd hL hf (fun _ _ h9 => by subst h9; exact ih _ _ hr) (fun _ _ h9 => by subst h9; exact he _ _ hr.symm)
noncomputable def f_X4_handsIn (S : rk_Sh) (I : rk_I) (R : rk_R) (a1 : Int32) : Option (Int32) :=
rk_b2 (rk_while (fun a9 => f_X4_handsIn_l4 S I R a1 a9.1 a9.2) (0, 0)) fun x1 x2 =>
some x1
theorem b_X4_handsIn {G : rk_G} {l : Launch} {d kc ks : Nat} {n : Nat} {S : rk_Sh} {I : rk_I} {J : rk_J} {R : rk_R} {Q : rk_Q} {a1 : Int32} {r : Int32} (hd : 1 ≤ d) (hL : rk_LC S R) (hf : f_X4_handsIn S I R a1 = some r) (hq : ∀ (v9 : Int32), r = v9 → Q (some (.int v9)) n S I J R) :
    AW G l yX4_handsIn cX4_handsIn 4 (some .int) d kc ks 0 [some (.ref 16), some (.int a1), none, none] [] n S I J R Q := by
  unfold f_X4_handsIn at hf
  refine AW_iconst (v := 0) dX4_handsIn_0 (by decide) ?_
  refine AW_istore_n2 dX4_handsIn_1 (by decide) rfl ?_
  refine AW_iconst (v := 0) dX4_handsIn_2 (by decide) ?_
  refine AW_istore_n3 dX4_handsIn_3 (by decide) rfl ?_
  refine AW_sb (rk_sbs (rk_sbs (rk_sbs (rk_sbs rk_sb0)))) ?_
  replace hf := rk_bd2 hf
  obtain ⟨x1, x2, e1, hf⟩ := hf
  obtain ⟨m1, e1⟩ := rk_while_sp e1
  refine L_X4_handsIn_w4 (Nat.le_trans (by decide) hd) hL ?_ m1 _ _ e1
  intro x1 x2 h9
  cases h9
  refine AW_iload_n2 dX4_handsIn_53 ?_
  exact AW_iret dX4_handsIn_54 rfl (hq _ (Option.some.inj hf).symm)
theorem w_X4_handsIn {G : rk_G} {l : Launch} {d : Nat} {n : Nat} {S : rk_Sh} {I : rk_I} {J : rk_J} {R : rk_R} {a1 : Int32} {v8 : Int32} (hd : 1 ≤ d) (hL : rk_LC S R) (hf : f_X4_handsIn S I R a1 = some v8) :
    CW G l yX4_handsIn cX4_handsIn 4 (some .int) d 0 0 [.ref 16, .int a1] n S I J R (rk_qi v8 n S I J R True) :=
  CW.of (by decide +kernel) (Nat.le_of_ble_eq_true rfl) (rk_sbs (rk_sbs (rk_sbe (rk_sbe rk_sb0)))) (b_X4_handsIn hd hL hf (fun v9 h9 => by cases h9; exact ⟨rfl, rfl, rfl, rfl, rfl, rfl, trivial⟩))
noncomputable def f_X4_isRing_16_2 (S : rk_Sh) (I : rk_I) (R : rk_R) (a2 : Int32) (a3 : Int32) : Option (Int32 × rk_I × rk_R) :=
(some (rk_ur R 16 1 (some 2))).bind fun R1 =>
(some (rk_ui I 16 2 a2)).bind fun I1 =>
(f_X4_amountsAlike S I1 R1 a3).bind fun x1 =>
if x1 = 0 then (
some (0, I1, R1)) else (
rk_b2 (f_X4_allSellAsTheyBuy S I1 R1 a3) fun x2 I2 =>
if x2 = 0 then (
some (0, I2, R1)) else (
(f_X4_handsReached S I2 R1 a3).bind fun x3 =>
(f_X4_handsIn S I2 R1 a3).bind fun x4 =>
if x3 = x4 then (
some (1, I2, R1)) else (
some (0, I2, R1))))
theorem b_X4_isRing_16_2 {G : rk_G} {l : Launch} {d kc ks : Nat} {n : Nat} {S : rk_Sh} {I : rk_I} {J : rk_J} {R : rk_R} {Q : rk_Q} {a2 : Int32} {a3 : Int32} {r : Int32 × rk_I × rk_R} (hd : 2 ≤ d) (hL : rk_LC S R) (hf : f_X4_isRing_16_2 S I R a2 a3 = some r) (hq : ∀ (v9 : Int32) (I9 : rk_I) (R9 : rk_R), r = (v9, I9, R9) → rk_LC S R9 → Q (some (.int v9)) n S I9 J R9) :
    AW G l yX4_isRing cX4_isRing 4 (some .boolean) d kc ks 0 [some (.ref 16), some (.ref 2), some (.int a2), some (.int a3)] [] n S I J R Q := by
  unfold f_X4_isRing_16_2 at hf
  refine AW_aload_n0 dX4_isRing_0 ?_
  refine AW_aload_n1 dX4_isRing_1 ?_
  replace hf := rk_bd hf
  obtain ⟨R1, e1, hf⟩ := hf
  refine AW_puA dX4_isRing_2 kf_X4_15 rfl (hL.1 16 (by decide)) (by decide) e1 ?_
  have hL1 := rk_LC_ur hL e1 rfl
  refine AW_aload_n0 dX4_isRing_5 ?_
  refine AW_iload_n2 dX4_isRing_6 ?_
  replace hf := rk_bd hf
  obtain ⟨I1, e2, hf⟩ := hf
  refine AW_puI dX4_isRing_7 kf_X4_19 rfl (hL1.1 16 (by decide)) (by decide) e2 ?_
  refine AW_aload_n0 dX4_isRing_10 ?_
  refine AW_iload_n3 dX4_isRing_11 ?_
  replace hf := rk_bd hf
  obtain ⟨x1, e3, hf⟩ := hf
  refine AW_iV1iz (w_X4_amountsAlike (d := 1) (Nat.le_refl _) hL1 e3) dX4_isRing_12 kl_X4_23 (hL1.1 16 (by decide)) rfl (Nat.le_trans (by decide) hd) (by decide) (Nat.le_of_ble_eq_true rfl) (fun _ => ?_)
  refine AW_if_eq 43 dX4_isRing_15 (by decide) (fun h1 => ?_) (fun h1 => ?_)
  · replace hf := rk_it hf h1
    refine AW_iconst (v := 0) dX4_isRing_43 (by decide) ?_
    exact AW_zret dX4_isRing_44 rfl rfl (hq _ _ _ (Option.some.inj hf).symm hL1)
  · replace hf := rk_if hf h1
    refine AW_aload_n0 dX4_isRing_18 ?_
    refine AW_iload_n3 dX4_isRing_19 ?_
    replace hf := rk_bd2 hf
    obtain ⟨x2, I2, e4, hf⟩ := hf
    refine AW_iV1iz (w_X4_allSellAsTheyBuy (d := 1) (Nat.le_refl _) hL1 e4) dX4_isRing_20 kl_X4_27 (hL1.1 16 (by decide)) rfl (Nat.le_trans (by decide) hd) (by decide) (Nat.le_of_ble_eq_true rfl) (fun _ => ?_)
    refine AW_if_eq 43 dX4_isRing_23 (by decide) (fun h2 => ?_) (fun h2 => ?_)
    · replace hf := rk_it hf h2
      refine AW_iconst (v := 0) dX4_isRing_43 (by decide) ?_
      exact AW_zret dX4_isRing_44 rfl rfl (hq _ _ _ (Option.some.inj hf).symm hL1)
    · replace hf := rk_if hf h2
      refine AW_aload_n0 dX4_isRing_26 ?_
      refine AW_iload_n3 dX4_isRing_27 ?_
      replace hf := rk_bd hf
      obtain ⟨x3, e5, hf⟩ := hf
      refine AW_iV1iz (w_X4_handsReached (d := 1) (Nat.le_refl _) hL1 e5) dX4_isRing_28 kl_X4_30 (hL1.1 16 (by decide)) rfl (Nat.le_trans (by decide) hd) (by decide) (Nat.le_of_ble_eq_true rfl) (fun _ => ?_)
      refine AW_aload_n0 dX4_isRing_31 ?_
      refine AW_iload_n3 dX4_isRing_32 ?_
      replace hf := rk_bd hf
      obtain ⟨x4, e6, hf⟩ := hf
      refine AW_iV1iz (w_X4_handsIn (d := 1) (Nat.le_refl _) hL1 e6) dX4_isRing_33 kl_X4_34 (hL1.1 16 (by decide)) rfl (Nat.le_trans (by decide) hd) (by decide) (Nat.le_of_ble_eq_true rfl) (fun _ => ?_)
      refine AW_icmp_ne 43 dX4_isRing_36 (by decide) (fun h3 => ?_) (fun h3 => ?_)
      · replace hf := rk_if hf h3
        refine AW_iconst (v := 0) dX4_isRing_43 (by decide) ?_
        exact AW_zret dX4_isRing_44 rfl rfl (hq _ _ _ (Option.some.inj hf).symm hL1)
      · replace hf := rk_it hf h3
        refine AW_iconst (v := 1) dX4_isRing_39 (by decide) ?_
        refine AW_goto 44 dX4_isRing_40 (by decide) ?_
        exact AW_zret dX4_isRing_44 rfl rfl (hq _ _ _ (Option.some.inj hf).symm hL1)
theorem w_X4_isRing_16_2 {G : rk_G} {l : Launch} {d : Nat} {n : Nat} {S : rk_Sh} {I : rk_I} {J : rk_J} {R : rk_R} {a2 : Int32} {a3 : Int32} {v8 : Int32} {I8 : rk_I} {R8 : rk_R} (hd : 2 ≤ d) (hL : rk_LC S R) (hf : f_X4_isRing_16_2 S I R a2 a3 = some (v8, I8, R8)) :
    CW G l yX4_isRing cX4_isRing 4 (some .boolean) d 0 0 [.ref 16, .ref 2, .int a2, .int a3] n S I J R (rk_qi v8 n S I8 J R8 (rk_LC S R8)) :=
  CW.of (by decide +kernel) (Nat.le_of_ble_eq_true rfl) (rk_sbs (rk_sbs (rk_sbs (rk_sbs rk_sb0)))) (b_X4_isRing_16_2 hd hL hf (fun v9 I9 R9 h9 hl9 => by cases h9; exact ⟨rfl, rfl, rfl, rfl, rfl, rfl, hl9⟩))
noncomputable def f_X9_closes (S : rk_Sh) (I : rk_I) (R : rk_R) (a1 : Int32) : Option (Int32 × rk_I × rk_R) :=
(f_X9_areOfOneCargo S I R a1).bind fun x1 =>
if x1 = 0 then (
some ((-2), I, R)) else (
rk_b3 (f_X4_isRing_16_2 S I R (I 0 3) a1) fun x2 I1 R1 =>
if x2 = 0 then (
some (0, I1, R1)) else (
some (1, I1, R1)))
theorem b_X9_closes {G : rk_G} {l : Launch} {d kc ks : Nat} {n : Nat} {S : rk_Sh} {I : rk_I} {J : rk_J} {R : rk_R} {Q : rk_Q} {a1 : Int32} {r : Int32 × rk_I × rk_R} (hd : 3 ≤ d) (hL : rk_LC S R) (hf : f_X9_closes S I R a1 = some r) (hq : ∀ (v9 : Int32) (I9 : rk_I) (R9 : rk_R), r = (v9, I9, R9) → rk_LC S R9 → Q (some (.int v9)) n S I9 J R9) :
    AW G l yX9_closes cX9_closes 2 (some .int) d kc ks 0 [some (.ref 0), some (.int a1)] [] n S I J R Q := by
  unfold f_X9_closes at hf
  refine AW_aload_n0 dX9_closes_0 ?_
  refine AW_iload_n1 dX9_closes_1 ?_
  replace hf := rk_bd hf
  obtain ⟨x1, e1, hf⟩ := hf
  refine AW_iV1iz (w_X9_areOfOneCargo (d := 0) hL e1) dX9_closes_2 kl_X9_208 (hL.1 0 (by decide)) rfl (Nat.le_trans (by decide) hd) (by decide) (Nat.le_of_ble_eq_true rfl) (fun _ => ?_)
  refine AW_if_ne 11 dX9_closes_5 (by decide) (fun h1 => ?_) (fun h1 => ?_)
  · replace hf := rk_if hf h1
    refine AW_aload_n0 dX9_closes_11 ?_
    refine AW_getR dX9_closes_12 kf_X9_51 rfl (hL.1 0 (by decide)) (by decide) (hL.2 0 10 16 rfl) ?_
    refine AW_aload_n0 dX9_closes_15 ?_
    refine AW_getR dX9_closes_16 kf_X9_17 rfl (hL.1 0 (by decide)) (by decide) (hL.2 0 2 2 rfl) ?_
    refine AW_aload_n0 dX9_closes_19 ?_
    refine AW_getI dX9_closes_20 kf_X9_125 rfl (hL.1 0 (by decide)) (by decide) ?_
    refine AW_iload_n1 dX9_closes_23 ?_
    replace hf := rk_bd3 hf
    obtain ⟨x2, I1, R1, e2, hf⟩ := hf
    refine AW_iV3iz (w_X4_isRing_16_2 (d := 2) (Nat.le_refl _) hL e2) dX9_closes_24 kl_X9_211 (hL.1 16 (by decide)) rfl (Nat.le_trans (by decide) hd) (by decide) (Nat.le_of_ble_eq_true rfl) (fun hL1 => ?_)
    refine AW_if_eq 34 dX9_closes_27 (by decide) (fun h2 => ?_) (fun h2 => ?_)
    · replace hf := rk_it hf h2
      refine AW_iconst (v := 0) dX9_closes_34 (by decide) ?_
      exact AW_iret dX9_closes_35 rfl (hq _ _ _ (Option.some.inj hf).symm hL1)
    · replace hf := rk_if hf h2
      refine AW_iconst (v := 1) dX9_closes_30 (by decide) ?_
      refine AW_goto 35 dX9_closes_31 (by decide) ?_
      exact AW_iret dX9_closes_35 rfl (hq _ _ _ (Option.some.inj hf).symm hL1)
  · replace hf := rk_it hf h1
    refine AW_bipush (v := (-2)) dX9_closes_8 (by decide) ?_
    exact AW_iret dX9_closes_10 rfl (hq _ _ _ (Option.some.inj hf).symm hL)
theorem w_X9_closes {G : rk_G} {l : Launch} {d : Nat} {n : Nat} {S : rk_Sh} {I : rk_I} {J : rk_J} {R : rk_R} {a1 : Int32} {v8 : Int32} {I8 : rk_I} {R8 : rk_R} (hd : 3 ≤ d) (hL : rk_LC S R) (hf : f_X9_closes S I R a1 = some (v8, I8, R8)) :
    CW G l yX9_closes cX9_closes 2 (some .int) d 0 0 [.ref 0, .int a1] n S I J R (rk_qi v8 n S I8 J R8 (rk_LC S R8)) :=
  CW.of (by decide +kernel) (Nat.le_of_ble_eq_true rfl) (rk_sbs (rk_sbs rk_sb0)) (b_X9_closes hd hL hf (fun v9 I9 R9 h9 hl9 => by cases h9; exact ⟨rfl, rfl, rfl, rfl, rfl, rfl, hl9⟩))
noncomputable def f_X10_areSales_l24 (I : rk_I) (u1 : Int32) (s2 : Int32) (s3 : Int32) : Option ((Int32 × Int32) ⊕ ((Int32 × Int32) ⊕ (Int32))) :=
if (I 31 20) ≤ s3 then (
some (.inr (.inl (s2, s3)))) else (
if ((u1 >>> (s3 &&& 31)) &&& 1) = 0 then (
some (.inl (s2, (s3 + 1)))) else (
if s2 = (-1) then (
(rk_rd I 39 24 s3).bind fun x1 =>
some (.inl (x1, (s3 + 1)))) else (
(rk_rd I 39 24 s3).bind fun x2 =>
if x2 = s2 then (
(rk_rd I 39 24 s3).bind fun x3 =>
some (.inl (x3, (s3 + 1)))) else (
some (.inr (.inr 0))))))
theorem b_X10_areSales_l24 {G : rk_G} {l : Launch} {d kc ks : Nat} {n : Nat} {S : rk_Sh} {I : rk_I} {J : rk_J} {R : rk_R} {Q : rk_Q} {u1 : Int32} {s2 : Int32} {s3 : Int32} {r : (Int32 × Int32) ⊕ ((Int32 × Int32) ⊕ (Int32))} (hd : 1 ≤ d) (hM : rk_LM S R) (hf : f_X10_areSales_l24 I u1 s2 s3 = some r) (hc : ∀ (w0 : Int32) (w1 : Int32), r = .inl (w0, w1) → AW G l yX10_areSales cX10_areSales 4 (some .boolean) d kc ks 24 [some (.ref 31), some (.int u1), some (.int w0), some (.int w1)] [] n S I J R Q) (he : ∀ (w0 : Int32) (w1 : Int32), r = .inr (.inl (w0, w1)) → AW G l yX10_areSales cX10_areSales 4 (some .boolean) d kc ks 73 [some (.ref 31), some (.int u1), some (.int w0), some (.int w1)] [] n S I J R Q) (hq : ∀ (v9 : Int32), r = .inr (.inr v9) → Q (some (.int v9)) n S I J R) :
    AW G l yX10_areSales cX10_areSales 4 (some .boolean) d kc ks 24 [some (.ref 31), some (.int u1), some (.int s2), some (.int s3)] [] n S I J R Q := by
  unfold f_X10_areSales_l24 at hf
  refine AW_iload_n3 dX10_areSales_24 ?_
  refine AW_aload_n0 dX10_areSales_25 ?_
  refine AW_getI dX10_areSales_26 kf_X10_118 rfl (hM.1 31 (by decide) (by decide)) (by decide) ?_
  refine AW_icmp_ge 73 dX10_areSales_29 (by decide) (fun h1 => ?_) (fun h1 => ?_)
  · replace hf := rk_it hf h1
    refine AW_sb (rk_sbs (rk_sbs (rk_sbs (rk_sbs rk_sb0)))) ?_
    exact he _ _ (Option.some.inj hf).symm
  · replace hf := rk_if hf h1
    refine AW_iload_n1 dX10_areSales_32 ?_
    refine AW_iload_n3 dX10_areSales_33 ?_
    refine AW_ishr dX10_areSales_34 ?_
    refine AW_iconst (v := 1) dX10_areSales_35 (by decide) ?_
    refine AW_iand dX10_areSales_36 ?_
    refine AW_if_ne 43 dX10_areSales_37 (by decide) (fun h2 => ?_) (fun h2 => ?_)
    · replace hf := rk_if hf h2
      refine AW_iload_n2 dX10_areSales_43 ?_
      refine AW_iconst (v := (-1)) dX10_areSales_44 (by decide) ?_
      refine AW_icmp_eq 60 dX10_areSales_45 (by decide) (fun h3 => ?_) (fun h3 => ?_)
      · replace hf := rk_it hf h3
        refine AW_aload_n0 dX10_areSales_60 ?_
        refine AW_getR dX10_areSales_61 kf_X10_35 rfl (hM.1 31 (by decide) (by decide)) (by decide) (hM.2 31 12 39 rfl) ?_
        refine AW_iload_n3 dX10_areSales_64 ?_
        replace hf := rk_bd hf
        obtain ⟨x1, e1, hf⟩ := hf
        refine AW_rd dX10_areSales_65 (hM.1 39 (by decide) (by decide)) e1 ?_
        refine AW_istore_n2 dX10_areSales_66 (by decide) rfl ?_
        refine AW_iinc_3 (v := 1) dX10_areSales_67 (by decide) (by decide) rfl ?_
        refine AW_goto 24 dX10_areSales_70 (by decide) ?_
        refine AW_sb (rk_sbs (rk_sbs (rk_sbs (rk_sbs rk_sb0)))) ?_
        exact hc _ _ (Option.some.inj hf).symm
      · replace hf := rk_if hf h3
        refine AW_aload_n0 dX10_areSales_48 ?_
        refine AW_getR dX10_areSales_49 kf_X10_35 rfl (hM.1 31 (by decide) (by decide)) (by decide) (hM.2 31 12 39 rfl) ?_
        refine AW_iload_n3 dX10_areSales_52 ?_
        replace hf := rk_bd hf
        obtain ⟨x2, e2, hf⟩ := hf
        refine AW_rd dX10_areSales_53 (hM.1 39 (by decide) (by decide)) e2 ?_
        refine AW_iload_n2 dX10_areSales_54 ?_
        refine AW_icmp_eq 60 dX10_areSales_55 (by decide) (fun h4 => ?_) (fun h4 => ?_)
        · replace hf := rk_it hf h4
          refine AW_aload_n0 dX10_areSales_60 ?_
          refine AW_getR dX10_areSales_61 kf_X10_35 rfl (hM.1 31 (by decide) (by decide)) (by decide) (hM.2 31 12 39 rfl) ?_
          refine AW_iload_n3 dX10_areSales_64 ?_
          replace hf := rk_bd hf
          obtain ⟨x3, e3, hf⟩ := hf
          refine AW_rd dX10_areSales_65 (hM.1 39 (by decide) (by decide)) e3 ?_
          refine AW_istore_n2 dX10_areSales_66 (by decide) rfl ?_
          refine AW_iinc_3 (v := 1) dX10_areSales_67 (by decide) (by decide) rfl ?_
          refine AW_goto 24 dX10_areSales_70 (by decide) ?_
          refine AW_sb (rk_sbs (rk_sbs (rk_sbs (rk_sbs rk_sb0)))) ?_
          exact hc _ _ (Option.some.inj hf).symm
        · replace hf := rk_if hf h4
          refine AW_iconst (v := 0) dX10_areSales_58 (by decide) ?_
          exact AW_zret dX10_areSales_59 rfl rfl (hq _ (Option.some.inj hf).symm)
    · replace hf := rk_it hf h2
      refine AW_goto 67 dX10_areSales_40 (by decide) ?_
      refine AW_iinc_3 (v := 1) dX10_areSales_67 (by decide) (by decide) rfl ?_
      refine AW_goto 24 dX10_areSales_70 (by decide) ?_
      refine AW_sb (rk_sbs (rk_sbs (rk_sbs (rk_sbs rk_sb0)))) ?_
      exact hc _ _ (Option.some.inj hf).symm
theorem L_X10_areSales_w24 {G : rk_G} {l : Launch} {d kc ks : Nat} {n : Nat} {S : rk_Sh} {I : rk_I} {J : rk_J} {R : rk_R} {Q : rk_Q} {u1 : Int32} {r : (Int32 × Int32) ⊕ (Int32)} (hd : 1 ≤ d) (hM : rk_LM S R) (he : ∀ (w0 : Int32) (w1 : Int32), r = .inl (w0, w1) → AW G l yX10_areSales cX10_areSales 4 (some .boolean) d kc ks 73 [some (.ref 31), some (.int u1), some (.int w0), some (.int w1)] [] n S I J R Q) (hq : ∀ (v9 : Int32), r = .inr v9 → Q (some (.int v9)) n S I J R) :
    ∀ (m9 : Nat) (s2 : Int32) (s3 : Int32) , rk_loop (fun a9 => f_X10_areSales_l24 I u1 a9.1 a9.2) m9 (s2, s3) = some r → AW G l yX10_areSales cX10_areSales 4 (some .boolean) d kc ks 24 [some (.ref 31), some (.int u1), some (.int s2), some (.int s3)] [] n S I J R Q := by
  intro m9
  induction m9 with
  | zero => intro s2 s3 hf; cases hf
  | succ m9 ih =>
    intro s2 s3 hf 
    obtain ⟨r9, hf, hr⟩ := rk_loop_s hf
    exact b_X10_areSales_l24 hd hM hf (fun _ _ h9 => by subst h9; exact ih _ _ hr) (fun _ _ h9 => by subst h9; exact he _ _ hr.symm) (fun _ h9 => by subst h9; exact hq _ hr.symm)
noncomputable def f_X10_areSales (I : rk_I) (a1 : Int32) : Option (Int32) :=
(f_X10_in a1.toInt64 1 ((1 <<< ((I 31 20) &&& 31)) - 1).toInt64).bind fun x1 =>
if x1 = 0 then (
some 0) else (
(rk_while (fun a9 => f_X10_areSales_l24 I a1 a9.1 a9.2) ((-1), 0)).bind fun q9 => rk_sc q9 (fun b9 => rk_p2 b9 (fun x2 x3 => (
some 1))) (fun q8 => some q8))
theorem b_X10_areSales {G : rk_G} {l : Launch} {d kc ks : Nat} {n : Nat} {S : rk_Sh} {I : rk_I} {J : rk_J} {R : rk_R} {Q : rk_Q} {a1 : Int32} {r : Int32} (hd : 1 ≤ d) (hM : rk_LM S R) (hf : f_X10_areSales I a1 = some r) (hq : ∀ (v9 : Int32), r = v9 → Q (some (.int v9)) n S I J R) :
    AW G l yX10_areSales cX10_areSales 4 (some .boolean) d kc ks 0 [some (.ref 31), some (.int a1), none, none] [] n S I J R Q := by
  unfold f_X10_areSales at hf
  refine AW_iload_n1 dX10_areSales_0 ?_
  refine AW_i2l dX10_areSales_1 ?_
  refine AW_lconst (v := 1) dX10_areSales_2 (by decide) ?_
  refine AW_iconst (v := 1) dX10_areSales_3 (by decide) ?_
  refine AW_aload_n0 dX10_areSales_4 ?_
  refine AW_getI dX10_areSales_5 kf_X10_118 rfl (hM.1 31 (by decide) (by decide)) (by decide) ?_
  refine AW_ishl dX10_areSales_8 ?_
  refine AW_iconst (v := 1) dX10_areSales_9 (by decide) ?_
  refine AW_isub dX10_areSales_10 ?_
  refine AW_i2l dX10_areSales_11 ?_
  replace hf := rk_bd hf
  obtain ⟨x1, e1, hf⟩ := hf
  refine AW_iS3iz (w_X10_in (d := 0) e1) dX10_areSales_12 kl_X10_114 (Nat.le_trans (by decide) hd) (by decide) (Nat.le_of_ble_eq_true rfl) (fun _ => ?_)
  refine AW_if_ne 20 dX10_areSales_15 (by decide) (fun h1 => ?_) (fun h1 => ?_)
  · replace hf := rk_if hf h1
    refine AW_iconst (v := (-1)) dX10_areSales_20 (by decide) ?_
    refine AW_istore_n2 dX10_areSales_21 (by decide) rfl ?_
    refine AW_iconst (v := 0) dX10_areSales_22 (by decide) ?_
    refine AW_istore_n3 dX10_areSales_23 (by decide) rfl ?_
    refine AW_sb (rk_sbs (rk_sbs (rk_sbs (rk_sbs rk_sb0)))) ?_
    replace hf := rk_bd hf
    obtain ⟨q9, e2, hf⟩ := hf
    obtain ⟨m1, e2⟩ := rk_while_sp e2
    refine L_X10_areSales_w24 (Nat.le_trans (by decide) hd) hM ?_ ?_ m1 _ _ e2
    · intro x2 x3 h9
      subst h9
      replace hf := rk_scp2 hf
      refine AW_iconst (v := 1) dX10_areSales_73 (by decide) ?_
      exact AW_zret dX10_areSales_74 rfl rfl (hq _ (Option.some.inj hf).symm)
    · intro v7 h9
      subst h9
      replace hf := rk_sc_r hf
      exact hq _ (Option.some.inj hf).symm
  · replace hf := rk_it hf h1
    refine AW_iconst (v := 0) dX10_areSales_18 (by decide) ?_
    exact AW_zret dX10_areSales_19 rfl rfl (hq _ (Option.some.inj hf).symm)
theorem w_X10_areSales {G : rk_G} {l : Launch} {d : Nat} {n : Nat} {S : rk_Sh} {I : rk_I} {J : rk_J} {R : rk_R} {a1 : Int32} {v8 : Int32} (hd : 1 ≤ d) (hM : rk_LM S R) (hf : f_X10_areSales I a1 = some v8) :
    CW G l yX10_areSales cX10_areSales 4 (some .boolean) d 0 0 [.ref 31, .int a1] n S I J R (rk_qi v8 n S I J R True) :=
  CW.of (by decide +kernel) (Nat.le_of_ble_eq_true rfl) (rk_sbs (rk_sbs (rk_sbe (rk_sbe rk_sb0)))) (b_X10_areSales hd hM hf (fun v9 h9 => by cases h9; exact ⟨rfl, rfl, rfl, rfl, rfl, rfl, trivial⟩))
noncomputable def f_X10_reached_l19 (I : rk_I) (u1 : Int32) (s3 : Int32) (u4 : Int32) (s5 : Int32) : Option ((Int32 × Int32) ⊕ (Int32 × Int32)) :=
if (I 31 20) ≤ s5 then (
some (.inr (s3, s5))) else (
if ((u1 >>> (s5 &&& 31)) &&& 1) = 1 then (
(rk_rd I 40 24 s5).bind fun x1 =>
if ((s3 >>> (x1 &&& 31)) &&& 1) = 1 then (
(rk_rd I 41 24 s5).bind fun x2 =>
some (.inl ((s3 ||| (1 <<< (x2 &&& 31))), (s5 + 1)))) else (
some (.inl ((s3 ||| 0), (s5 + 1))))) else (
some (.inl ((s3 ||| 0), (s5 + 1)))))
theorem b_X10_reached_l19 {G : rk_G} {l : Launch} {d kc ks : Nat} {n : Nat} {S : rk_Sh} {I : rk_I} {J : rk_J} {R : rk_R} {Q : rk_Q} {u1 : Int32} {s3 : Int32} {u4 : Int32} {s5 : Int32} {r : (Int32 × Int32) ⊕ (Int32 × Int32)} (hM : rk_LM S R) (hf : f_X10_reached_l19 I u1 s3 u4 s5 = some r) (hc : ∀ (w0 : Int32) (w1 : Int32), r = .inl (w0, w1) → AW G l yX10_reached cX10_reached 6 (some .int) d kc ks 19 [some (.ref 31), some (.int u1), none, some (.int w0), some (.int u4), some (.int w1)] [] n S I J R Q) (he : ∀ (w0 : Int32) (w1 : Int32), r = .inr (w0, w1) → AW G l yX10_reached cX10_reached 6 (some .int) d kc ks 75 [some (.ref 31), some (.int u1), none, some (.int w0), some (.int u4), some (.int w1)] [] n S I J R Q) :
    AW G l yX10_reached cX10_reached 6 (some .int) d kc ks 19 [some (.ref 31), some (.int u1), none, some (.int s3), some (.int u4), some (.int s5)] [] n S I J R Q := by
  unfold f_X10_reached_l19 at hf
  refine AW_iload_5 dX10_reached_19 ?_
  refine AW_aload_n0 dX10_reached_21 ?_
  refine AW_getI dX10_reached_22 kf_X10_118 rfl (hM.1 31 (by decide) (by decide)) (by decide) ?_
  refine AW_icmp_ge 75 dX10_reached_25 (by decide) (fun h1 => ?_) (fun h1 => ?_)
  · replace hf := rk_it hf h1
    refine AW_sb (rk_sbs (rk_sbs (rk_sbn (rk_sbs (rk_sbs (rk_sbs rk_sb0)))))) ?_
    exact he _ _ (Option.some.inj hf).symm
  · replace hf := rk_if hf h1
    refine AW_iload_n3 dX10_reached_28 ?_
    refine AW_iload_n1 dX10_reached_29 ?_
    refine AW_iload_5 dX10_reached_30 ?_
    refine AW_ishr dX10_reached_32 ?_
    refine AW_iconst (v := 1) dX10_reached_33 (by decide) ?_
    refine AW_iand dX10_reached_34 ?_
    refine AW_iconst (v := 1) dX10_reached_35 (by decide) ?_
    refine AW_icmp_ne 66 dX10_reached_36 (by decide) (fun h2 => ?_) (fun h2 => ?_)
    · replace hf := rk_if hf h2
      refine AW_iconst (v := 0) dX10_reached_66 (by decide) ?_
      refine AW_ior dX10_reached_67 ?_
      refine AW_istore_n3 dX10_reached_68 (by decide) rfl ?_
      refine AW_iinc_5 (v := 1) dX10_reached_69 (by decide) (by decide) rfl ?_
      refine AW_goto 19 dX10_reached_72 (by decide) ?_
      refine AW_sb (rk_sbs (rk_sbs (rk_sbn (rk_sbs (rk_sbs (rk_sbs rk_sb0)))))) ?_
      exact hc _ _ (Option.some.inj hf).symm
    · replace hf := rk_it hf h2
      refine AW_iload_n3 dX10_reached_39 ?_
      refine AW_aload_n0 dX10_reached_40 ?_
      refine AW_getR dX10_reached_41 kf_X10_38 rfl (hM.1 31 (by decide) (by decide)) (by decide) (hM.2 31 13 40 rfl) ?_
      refine AW_iload_5 dX10_reached_44 ?_
      replace hf := rk_bd hf
      obtain ⟨x1, e1, hf⟩ := hf
      refine AW_rd dX10_reached_46 (hM.1 40 (by decide) (by decide)) e1 ?_
      refine AW_ishr dX10_reached_47 ?_
      refine AW_iconst (v := 1) dX10_reached_48 (by decide) ?_
      refine AW_iand dX10_reached_49 ?_
      refine AW_iconst (v := 1) dX10_reached_50 (by decide) ?_
      refine AW_icmp_ne 66 dX10_reached_51 (by decide) (fun h3 => ?_) (fun h3 => ?_)
      · replace hf := rk_if hf h3
        refine AW_iconst (v := 0) dX10_reached_66 (by decide) ?_
        refine AW_ior dX10_reached_67 ?_
        refine AW_istore_n3 dX10_reached_68 (by decide) rfl ?_
        refine AW_iinc_5 (v := 1) dX10_reached_69 (by decide) (by decide) rfl ?_
        refine AW_goto 19 dX10_reached_72 (by decide) ?_
        refine AW_sb (rk_sbs (rk_sbs (rk_sbn (rk_sbs (rk_sbs (rk_sbs rk_sb0)))))) ?_
        exact hc _ _ (Option.some.inj hf).symm
      · replace hf := rk_it hf h3
        refine AW_iconst (v := 1) dX10_reached_54 (by decide) ?_
        refine AW_aload_n0 dX10_reached_55 ?_
        refine AW_getR dX10_reached_56 kf_X10_41 rfl (hM.1 31 (by decide) (by decide)) (by decide) (hM.2 31 14 41 rfl) ?_
        refine AW_iload_5 dX10_reached_59 ?_
        replace hf := rk_bd hf
        obtain ⟨x2, e2, hf⟩ := hf
        refine AW_rd dX10_reached_61 (hM.1 41 (by decide) (by decide)) e2 ?_
        refine AW_ishl dX10_reached_62 ?_
        refine AW_goto 67 dX10_reached_63 (by decide) ?_
        refine AW_ior dX10_reached_67 ?_
        refine AW_istore_n3 dX10_reached_68 (by decide) rfl ?_
        refine AW_iinc_5 (v := 1) dX10_reached_69 (by decide) (by decide) rfl ?_
        refine AW_goto 19 dX10_reached_72 (by decide) ?_
        refine AW_sb (rk_sbs (rk_sbs (rk_sbn (rk_sbs (rk_sbs (rk_sbs rk_sb0)))))) ?_
        exact hc _ _ (Option.some.inj hf).symm
theorem L_X10_reached_w19 {G : rk_G} {l : Launch} {d kc ks : Nat} {n : Nat} {S : rk_Sh} {I : rk_I} {J : rk_J} {R : rk_R} {Q : rk_Q} {u1 : Int32} {u4 : Int32} {r : Int32 × Int32} (hM : rk_LM S R) (he : ∀ (w0 : Int32) (w1 : Int32), r = (w0, w1) → AW G l yX10_reached cX10_reached 6 (some .int) d kc ks 75 [some (.ref 31), some (.int u1), none, some (.int w0), some (.int u4), some (.int w1)] [] n S I J R Q) :
    ∀ (m9 : Nat) (s3 : Int32) (s5 : Int32) , rk_loop (fun a9 => f_X10_reached_l19 I u1 a9.1 u4 a9.2) m9 (s3, s5) = some r → AW G l yX10_reached cX10_reached 6 (some .int) d kc ks 19 [some (.ref 31), some (.int u1), none, some (.int s3), some (.int u4), some (.int s5)] [] n S I J R Q := by
  intro m9
  induction m9 with
  | zero => intro s3 s5 hf; cases hf
  | succ m9 ih =>
    intro s3 s5 hf 
    obtain ⟨r9, hf, hr⟩ := rk_loop_s hf
    exact b_X10_reached_l19 hM hf (fun _ _ h9 => by subst h9; exact ih _ _ hr) (fun _ _ h9 => by subst h9; exact he _ _ hr.symm)
noncomputable def f_X10_reached_l7 (I : rk_I) (u1 : Int32) (s3 : Int32) (s4 : Int32) : Option ((Int32 × Int32) ⊕ (Int32 × Int32)) :=
if s3 = s4 then (
some (.inr (s3, s4))) else (
rk_b2 (rk_while (fun a9 => f_X10_reached_l19 I u1 a9.1 s3 a9.2) (s3, 0)) fun x1 x2 =>
some (.inl (x1, s3)))
theorem b_X10_reached_l7 {G : rk_G} {l : Launch} {d kc ks : Nat} {n : Nat} {S : rk_Sh} {I : rk_I} {J : rk_J} {R : rk_R} {Q : rk_Q} {u1 : Int32} {s3 : Int32} {s4 : Int32} {r : (Int32 × Int32) ⊕ (Int32 × Int32)} (hM : rk_LM S R) (hf : f_X10_reached_l7 I u1 s3 s4 = some r) (hc : ∀ (w0 : Int32) (w1 : Int32), r = .inl (w0, w1) → AW G l yX10_reached cX10_reached 6 (some .int) d kc ks 7 [some (.ref 31), some (.int u1), none, some (.int w0), some (.int w1), none] [] n S I J R Q) (he : ∀ (w0 : Int32) (w1 : Int32), r = .inr (w0, w1) → AW G l yX10_reached cX10_reached 6 (some .int) d kc ks 78 [some (.ref 31), some (.int u1), none, some (.int w0), some (.int w1), none] [] n S I J R Q) :
    AW G l yX10_reached cX10_reached 6 (some .int) d kc ks 7 [some (.ref 31), some (.int u1), none, some (.int s3), some (.int s4), none] [] n S I J R Q := by
  unfold f_X10_reached_l7 at hf
  refine AW_iload_n3 dX10_reached_7 ?_
  refine AW_iload_4 dX10_reached_8 ?_
  refine AW_icmp_eq 78 dX10_reached_10 (by decide) (fun h1 => ?_) (fun h1 => ?_)
  · replace hf := rk_it hf h1
    refine AW_sb (rk_sbs (rk_sbs (rk_sbn (rk_sbs (rk_sbs (rk_sbn rk_sb0)))))) ?_
    exact he _ _ (Option.some.inj hf).symm
  · replace hf := rk_if hf h1
    refine AW_iload_n3 dX10_reached_13 ?_
    refine AW_istore_4 dX10_reached_14 (by decide) rfl ?_
    refine AW_iconst (v := 0) dX10_reached_16 (by decide) ?_
    refine AW_istore_5 dX10_reached_17 (by decide) rfl ?_
    refine AW_sb (rk_sbs (rk_sbs (rk_sbn (rk_sbs (rk_sbs (rk_sbs rk_sb0)))))) ?_
    replace hf := rk_bd2 hf
    obtain ⟨x1, x2, e1, hf⟩ := hf
    obtain ⟨m1, e1⟩ := rk_while_sp e1
    refine L_X10_reached_w19 hM ?_ m1 _ _ e1
    intro x1 x2 h9
    cases h9
    refine AW_goto 7 dX10_reached_75 (by decide) ?_
    refine AW_sb (rk_sbs (rk_sbs (rk_sbn (rk_sbs (rk_sbs (rk_sbn rk_sb0)))))) ?_
    exact hc _ _ (Option.some.inj hf).symm
theorem L_X10_reached_w7 {G : rk_G} {l : Launch} {d kc ks : Nat} {n : Nat} {S : rk_Sh} {I : rk_I} {J : rk_J} {R : rk_R} {Q : rk_Q} {u1 : Int32} {r : Int32 × Int32} (hM : rk_LM S R) (he : ∀ (w0 : Int32) (w1 : Int32), r = (w0, w1) → AW G l yX10_reached cX10_reached 6 (some .int) d kc ks 78 [some (.ref 31), some (.int u1), none, some (.int w0), some (.int w1), none] [] n S I J R Q) :
    ∀ (m9 : Nat) (s3 : Int32) (s4 : Int32) , rk_loop (fun a9 => f_X10_reached_l7 I u1 a9.1 a9.2) m9 (s3, s4) = some r → AW G l yX10_reached cX10_reached 6 (some .int) d kc ks 7 [some (.ref 31), some (.int u1), none, some (.int s3), some (.int s4), none] [] n S I J R Q := by
  intro m9
  induction m9 with
  | zero => intro s3 s4 hf; cases hf
  | succ m9 ih =>
    intro s3 s4 hf 
    obtain ⟨r9, hf, hr⟩ := rk_loop_s hf
    exact b_X10_reached_l7 hM hf (fun _ _ h9 => by subst h9; exact ih _ _ hr) (fun _ _ h9 => by subst h9; exact he _ _ hr.symm)
noncomputable def f_X10_reached (I : rk_I) (a1 : Int32) (a2 : Int32) : Option (Int32) :=
rk_b2 (rk_while (fun a9 => f_X10_reached_l7 I a1 a9.1 a9.2) ((1 <<< (a2 &&& 31)), 0)) fun x1 x2 =>
some x1
theorem b_X10_reached {G : rk_G} {l : Launch} {d kc ks : Nat} {n : Nat} {S : rk_Sh} {I : rk_I} {J : rk_J} {R : rk_R} {Q : rk_Q} {a1 : Int32} {a2 : Int32} {r : Int32} (hM : rk_LM S R) (hf : f_X10_reached I a1 a2 = some r) (hq : ∀ (v9 : Int32), r = v9 → Q (some (.int v9)) n S I J R) :
    AW G l yX10_reached cX10_reached 6 (some .int) d kc ks 0 [some (.ref 31), some (.int a1), some (.int a2), none, none, none] [] n S I J R Q := by
  unfold f_X10_reached at hf
  refine AW_iconst (v := 1) dX10_reached_0 (by decide) ?_
  refine AW_iload_n2 dX10_reached_1 ?_
  refine AW_ishl dX10_reached_2 ?_
  refine AW_istore_n3 dX10_reached_3 (by decide) rfl ?_
  refine AW_iconst (v := 0) dX10_reached_4 (by decide) ?_
  refine AW_istore_4 dX10_reached_5 (by decide) rfl ?_
  refine AW_sb (rk_sbs (rk_sbs (rk_sbn (rk_sbs (rk_sbs (rk_sbn rk_sb0)))))) ?_
  replace hf := rk_bd2 hf
  obtain ⟨x1, x2, e1, hf⟩ := hf
  obtain ⟨m1, e1⟩ := rk_while_sp e1
  refine L_X10_reached_w7 hM ?_ m1 _ _ e1
  intro x1 x2 h9
  cases h9
  refine AW_iload_n3 dX10_reached_78 ?_
  exact AW_iret dX10_reached_79 rfl (hq _ (Option.some.inj hf).symm)
theorem w_X10_reached {G : rk_G} {l : Launch} {d : Nat} {n : Nat} {S : rk_Sh} {I : rk_I} {J : rk_J} {R : rk_R} {a1 : Int32} {a2 : Int32} {v8 : Int32} (hM : rk_LM S R) (hf : f_X10_reached I a1 a2 = some v8) :
    CW G l yX10_reached cX10_reached 6 (some .int) d 0 0 [.ref 31, .int a1, .int a2] n S I J R (rk_qi v8 n S I J R True) :=
  CW.of (by decide +kernel) (Nat.le_of_ble_eq_true rfl) (rk_sbs (rk_sbs (rk_sbs (rk_sbe (rk_sbe (rk_sbe rk_sb0)))))) (b_X10_reached hM hf (fun v9 h9 => by cases h9; exact ⟨rfl, rfl, rfl, rfl, rfl, rfl, trivial⟩))
noncomputable def f_X10_isRing_j45 (I : rk_I) (u1 : Int32) (j2 : Int32) (j4 : Int32) : Option ((Int32 × Int32 × Int32) ⊕ ((Int32 × Int32 × Int32) ⊕ (Int32))) :=
(rk_rd I 42 24 j4).bind fun x1 =>
(rk_rd I 40 24 j4).bind fun x2 =>
(rk_rd I 41 24 j4).bind fun x3 =>
some (.inl ((j2 ||| ((1 <<< (x2 &&& 31)) ||| (1 <<< (x3 &&& 31)))), x1, (j4 + 1)))
theorem b_X10_isRing_j45 {G : rk_G} {l : Launch} {d kc ks : Nat} {n : Nat} {S : rk_Sh} {I : rk_I} {J : rk_J} {R : rk_R} {Q : rk_Q} {u1 : Int32} {j2 : Int32} {j4 : Int32} {r : (Int32 × Int32 × Int32) ⊕ ((Int32 × Int32 × Int32) ⊕ (Int32))} (hd : 1 ≤ d) (hM : rk_LM S R) (hf : f_X10_isRing_j45 I u1 j2 j4 = some r) (hc : ∀ (w0 : Int32) (w1 : Int32) (w2 : Int32), r = .inl (w0, w1, w2) → AW G l yX10_isRing cX10_isRing 7 (some .boolean) d kc ks 7 [some (.ref 31), some (.int u1), some (.int w0), some (.int w1), some (.int w2), none, none] [] n S I J R Q) (he : ∀ (w0 : Int32) (w1 : Int32) (w2 : Int32), r = .inr (.inl (w0, w1, w2)) → AW G l yX10_isRing cX10_isRing 7 (some .boolean) d kc ks 81 [some (.ref 31), some (.int u1), some (.int w0), some (.int w1), some (.int w2), none, none] [] n S I J R Q) (hq : ∀ (v9 : Int32), r = .inr (.inr v9) → Q (some (.int v9)) n S I J R) :
    AW G l yX10_isRing cX10_isRing 7 (some .boolean) d kc ks 45 [some (.ref 31), some (.int u1), some (.int j2), none, some (.int j4), none, none] [] n S I J R Q := by
  unfold f_X10_isRing_j45 at hf
  refine AW_aload_n0 dX10_isRing_45 ?_
  refine AW_getR dX10_isRing_46 kf_X10_44 rfl (hM.1 31 (by decide) (by decide)) (by decide) (hM.2 31 15 42 rfl) ?_
  refine AW_iload_4 dX10_isRing_49 ?_
  replace hf := rk_bd hf
  obtain ⟨x1, e1, hf⟩ := hf
  refine AW_rd dX10_isRing_51 (hM.1 42 (by decide) (by decide)) e1 ?_
  refine AW_istore_n3 dX10_isRing_52 (by decide) rfl ?_
  refine AW_iload_n2 dX10_isRing_53 ?_
  refine AW_iconst (v := 1) dX10_isRing_54 (by decide) ?_
  refine AW_aload_n0 dX10_isRing_55 ?_
  refine AW_getR dX10_isRing_56 kf_X10_38 rfl (hM.1 31 (by decide) (by decide)) (by decide) (hM.2 31 13 40 rfl) ?_
  refine AW_iload_4 dX10_isRing_59 ?_
  replace hf := rk_bd hf
  obtain ⟨x2, e2, hf⟩ := hf
  refine AW_rd dX10_isRing_61 (hM.1 40 (by decide) (by decide)) e2 ?_
  refine AW_ishl dX10_isRing_62 ?_
  refine AW_iconst (v := 1) dX10_isRing_63 (by decide) ?_
  refine AW_aload_n0 dX10_isRing_64 ?_
  refine AW_getR dX10_isRing_65 kf_X10_41 rfl (hM.1 31 (by decide) (by decide)) (by decide) (hM.2 31 14 41 rfl) ?_
  refine AW_iload_4 dX10_isRing_68 ?_
  replace hf := rk_bd hf
  obtain ⟨x3, e3, hf⟩ := hf
  refine AW_rd dX10_isRing_70 (hM.1 41 (by decide) (by decide)) e3 ?_
  refine AW_ishl dX10_isRing_71 ?_
  refine AW_ior dX10_isRing_72 ?_
  refine AW_ior dX10_isRing_73 ?_
  refine AW_istore_n2 dX10_isRing_74 (by decide) rfl ?_
  refine AW_iinc_4 (v := 1) dX10_isRing_75 (by decide) (by decide) rfl ?_
  refine AW_goto 7 dX10_isRing_78 (by decide) ?_
  refine AW_sb (rk_sbs (rk_sbs (rk_sbs (rk_sbs (rk_sbs (rk_sbn (rk_sbn rk_sb0))))))) ?_
  exact hc _ _ _ (Option.some.inj hf).symm
noncomputable def f_X10_isRing_l7 (I : rk_I) (u1 : Int32) (s2 : Int32) (s3 : Int32) (s4 : Int32) : Option ((Int32 × Int32 × Int32) ⊕ ((Int32 × Int32 × Int32) ⊕ (Int32))) :=
if (I 31 20) ≤ s4 then (
some (.inr (.inl (s2, s3, s4)))) else (
if ((u1 >>> (s4 &&& 31)) &&& 1) = 0 then (
some (.inl (s2, s3, (s4 + 1)))) else (
if s3 = 0 then (
f_X10_isRing_j45 I u1 s2 s4) else (
(rk_rd I 42 24 s4).bind fun x1 =>
if x1 = s3 then (
f_X10_isRing_j45 I u1 s2 s4) else (
some (.inr (.inr 0))))))
theorem b_X10_isRing_l7 {G : rk_G} {l : Launch} {d kc ks : Nat} {n : Nat} {S : rk_Sh} {I : rk_I} {J : rk_J} {R : rk_R} {Q : rk_Q} {u1 : Int32} {s2 : Int32} {s3 : Int32} {s4 : Int32} {r : (Int32 × Int32 × Int32) ⊕ ((Int32 × Int32 × Int32) ⊕ (Int32))} (hd : 1 ≤ d) (hM : rk_LM S R) (hf : f_X10_isRing_l7 I u1 s2 s3 s4 = some r) (hc : ∀ (w0 : Int32) (w1 : Int32) (w2 : Int32), r = .inl (w0, w1, w2) → AW G l yX10_isRing cX10_isRing 7 (some .boolean) d kc ks 7 [some (.ref 31), some (.int u1), some (.int w0), some (.int w1), some (.int w2), none, none] [] n S I J R Q) (he : ∀ (w0 : Int32) (w1 : Int32) (w2 : Int32), r = .inr (.inl (w0, w1, w2)) → AW G l yX10_isRing cX10_isRing 7 (some .boolean) d kc ks 81 [some (.ref 31), some (.int u1), some (.int w0), some (.int w1), some (.int w2), none, none] [] n S I J R Q) (hq : ∀ (v9 : Int32), r = .inr (.inr v9) → Q (some (.int v9)) n S I J R) :
    AW G l yX10_isRing cX10_isRing 7 (some .boolean) d kc ks 7 [some (.ref 31), some (.int u1), some (.int s2), some (.int s3), some (.int s4), none, none] [] n S I J R Q := by
  unfold f_X10_isRing_l7 at hf
  refine AW_iload_4 dX10_isRing_7 ?_
  refine AW_aload_n0 dX10_isRing_9 ?_
  refine AW_getI dX10_isRing_10 kf_X10_118 rfl (hM.1 31 (by decide) (by decide)) (by decide) ?_
  refine AW_icmp_ge 81 dX10_isRing_13 (by decide) (fun h1 => ?_) (fun h1 => ?_)
  · replace hf := rk_it hf h1
    refine AW_sb (rk_sbs (rk_sbs (rk_sbs (rk_sbs (rk_sbs (rk_sbn (rk_sbn rk_sb0))))))) ?_
    exact he _ _ _ (Option.some.inj hf).symm
  · replace hf := rk_if hf h1
    refine AW_iload_n1 dX10_isRing_16 ?_
    refine AW_iload_4 dX10_isRing_17 ?_
    refine AW_ishr dX10_isRing_19 ?_
    refine AW_iconst (v := 1) dX10_isRing_20 (by decide) ?_
    refine AW_iand dX10_isRing_21 ?_
    refine AW_if_ne 28 dX10_isRing_22 (by decide) (fun h2 => ?_) (fun h2 => ?_)
    · replace hf := rk_if hf h2
      refine AW_iload_n3 dX10_isRing_28 ?_
      refine AW_if_eq 45 dX10_isRing_29 (by decide) (fun h3 => ?_) (fun h3 => ?_)
      · replace hf := rk_it hf h3
        refine AW_sb (rk_sbs (rk_sbs (rk_sbs (rk_sbn (rk_sbs (rk_sbn (rk_sbn rk_sb0))))))) ?_
        exact b_X10_isRing_j45 (Nat.le_trans (by decide) hd) hM hf hc he hq
      · replace hf := rk_if hf h3
        refine AW_aload_n0 dX10_isRing_32 ?_
        refine AW_getR dX10_isRing_33 kf_X10_44 rfl (hM.1 31 (by decide) (by decide)) (by decide) (hM.2 31 15 42 rfl) ?_
        refine AW_iload_4 dX10_isRing_36 ?_
        replace hf := rk_bd hf
        obtain ⟨x1, e1, hf⟩ := hf
        refine AW_rd dX10_isRing_38 (hM.1 42 (by decide) (by decide)) e1 ?_
        refine AW_iload_n3 dX10_isRing_39 ?_
        refine AW_icmp_eq 45 dX10_isRing_40 (by decide) (fun h4 => ?_) (fun h4 => ?_)
        · replace hf := rk_it hf h4
          refine AW_sb (rk_sbs (rk_sbs (rk_sbs (rk_sbn (rk_sbs (rk_sbn (rk_sbn rk_sb0))))))) ?_
          exact b_X10_isRing_j45 (Nat.le_trans (by decide) hd) hM hf hc he hq
        · replace hf := rk_if hf h4
          refine AW_iconst (v := 0) dX10_isRing_43 (by decide) ?_
          exact AW_zret dX10_isRing_44 rfl rfl (hq _ (Option.some.inj hf).symm)
    · replace hf := rk_it hf h2
      refine AW_goto 75 dX10_isRing_25 (by decide) ?_
      refine AW_iinc_4 (v := 1) dX10_isRing_75 (by decide) (by decide) rfl ?_
      refine AW_goto 7 dX10_isRing_78 (by decide) ?_
      refine AW_sb (rk_sbs (rk_sbs (rk_sbs (rk_sbs (rk_sbs (rk_sbn (rk_sbn rk_sb0))))))) ?_
      exact hc _ _ _ (Option.some.inj hf).symm
theorem L_X10_isRing_w7 {G : rk_G} {l : Launch} {d kc ks : Nat} {n : Nat} {S : rk_Sh} {I : rk_I} {J : rk_J} {R : rk_R} {Q : rk_Q} {u1 : Int32} {r : (Int32 × Int32 × Int32) ⊕ (Int32)} (hd : 1 ≤ d) (hM : rk_LM S R) (he : ∀ (w0 : Int32) (w1 : Int32) (w2 : Int32), r = .inl (w0, w1, w2) → AW G l yX10_isRing cX10_isRing 7 (some .boolean) d kc ks 81 [some (.ref 31), some (.int u1), some (.int w0), some (.int w1), some (.int w2), none, none] [] n S I J R Q) (hq : ∀ (v9 : Int32), r = .inr v9 → Q (some (.int v9)) n S I J R) :
    ∀ (m9 : Nat) (s2 : Int32) (s3 : Int32) (s4 : Int32) , rk_loop (fun a9 => f_X10_isRing_l7 I u1 a9.1 a9.2.1 a9.2.2) m9 (s2, s3, s4) = some r → AW G l yX10_isRing cX10_isRing 7 (some .boolean) d kc ks 7 [some (.ref 31), some (.int u1), some (.int s2), some (.int s3), some (.int s4), none, none] [] n S I J R Q := by
  intro m9
  induction m9 with
  | zero => intro s2 s3 s4 hf; cases hf
  | succ m9 ih =>
    intro s2 s3 s4 hf 
    obtain ⟨r9, hf, hr⟩ := rk_loop_s hf
    exact b_X10_isRing_l7 hd hM hf (fun _ _ _ h9 => by subst h9; exact ih _ _ _ hr) (fun _ _ _ h9 => by subst h9; exact he _ _ _ hr.symm) (fun _ h9 => by subst h9; exact hq _ hr.symm)
noncomputable def f_X10_isRing_j150 (I : rk_I) (u1 : Int32) (u2 : Int32) (u4 : Int32) (j6 : Int32) (t0 : Int32) (t1 : Int32) : Option ((Int32 × Int32) ⊕ (Int32 × Int32)) :=
(rk_rd I 41 24 j6).bind fun x1 =>
if x1 = u4 then (
some (.inl ((t0 + (t1 - 1)), (j6 + 1)))) else (
some (.inl ((t0 + (t1 - 0)), (j6 + 1))))
theorem b_X10_isRing_j150 {G : rk_G} {l : Launch} {d kc ks : Nat} {n : Nat} {S : rk_Sh} {I : rk_I} {J : rk_J} {R : rk_R} {Q : rk_Q} {u1 : Int32} {u2 : Int32} {u4 : Int32} {j6 : Int32} {t0 : Int32} {t1 : Int32} {r : (Int32 × Int32) ⊕ (Int32 × Int32)} (hd : 1 ≤ d) (hM : rk_LM S R) (hf : f_X10_isRing_j150 I u1 u2 u4 j6 t0 t1 = some r) (hc : ∀ (w0 : Int32) (w1 : Int32), r = .inl (w0, w1) → AW G l yX10_isRing cX10_isRing 7 (some .boolean) d kc ks 109 [some (.ref 31), some (.int u1), some (.int u2), none, some (.int u4), some (.int w0), some (.int w1)] [] n S I J R Q) (he : ∀ (w0 : Int32) (w1 : Int32), r = .inr (w0, w1) → AW G l yX10_isRing cX10_isRing 7 (some .boolean) d kc ks 177 [some (.ref 31), some (.int u1), some (.int u2), none, some (.int u4), some (.int w0), some (.int w1)] [] n S I J R Q) :
    AW G l yX10_isRing cX10_isRing 7 (some .boolean) d kc ks 150 [some (.ref 31), some (.int u1), some (.int u2), none, some (.int u4), none, some (.int j6)] [.int t1, .int t0] n S I J R Q := by
  unfold f_X10_isRing_j150 at hf
  refine AW_aload_n0 dX10_isRing_150 ?_
  refine AW_getR dX10_isRing_151 kf_X10_41 rfl (hM.1 31 (by decide) (by decide)) (by decide) (hM.2 31 14 41 rfl) ?_
  refine AW_iload_6 dX10_isRing_154 ?_
  replace hf := rk_bd hf
  obtain ⟨x1, e1, hf⟩ := hf
  refine AW_rd dX10_isRing_156 (hM.1 41 (by decide) (by decide)) e1 ?_
  refine AW_iload_4 dX10_isRing_157 ?_
  refine AW_icmp_ne 166 dX10_isRing_159 (by decide) (fun h1 => ?_) (fun h1 => ?_)
  · replace hf := rk_if hf h1
    refine AW_iconst (v := 0) dX10_isRing_166 (by decide) ?_
    refine AW_isub dX10_isRing_167 ?_
    refine AW_iadd dX10_isRing_168 ?_
    refine AW_istore_5 dX10_isRing_169 (by decide) rfl ?_
    refine AW_iinc_6 (v := 1) dX10_isRing_171 (by decide) (by decide) rfl ?_
    refine AW_goto 109 dX10_isRing_174 (by decide) ?_
    refine AW_sb (rk_sbs (rk_sbs (rk_sbs (rk_sbn (rk_sbs (rk_sbs (rk_sbs rk_sb0))))))) ?_
    exact hc _ _ (Option.some.inj hf).symm
  · replace hf := rk_it hf h1
    refine AW_iconst (v := 1) dX10_isRing_162 (by decide) ?_
    refine AW_goto 167 dX10_isRing_163 (by decide) ?_
    refine AW_isub dX10_isRing_167 ?_
    refine AW_iadd dX10_isRing_168 ?_
    refine AW_istore_5 dX10_isRing_169 (by decide) rfl ?_
    refine AW_iinc_6 (v := 1) dX10_isRing_171 (by decide) (by decide) rfl ?_
    refine AW_goto 109 dX10_isRing_174 (by decide) ?_
    refine AW_sb (rk_sbs (rk_sbs (rk_sbs (rk_sbn (rk_sbs (rk_sbs (rk_sbs rk_sb0))))))) ?_
    exact hc _ _ (Option.some.inj hf).symm
noncomputable def f_X10_isRing_l109 (I : rk_I) (u1 : Int32) (u2 : Int32) (u4 : Int32) (s5 : Int32) (s6 : Int32) : Option ((Int32 × Int32) ⊕ (Int32 × Int32)) :=
if (I 31 20) ≤ s6 then (
some (.inr (s5, s6))) else (
if ((u1 >>> (s6 &&& 31)) &&& 1) = 0 then (
some (.inl ((s5 + 0), (s6 + 1)))) else (
(rk_rd I 40 24 s6).bind fun x1 =>
if x1 = u4 then (
f_X10_isRing_j150 I u1 u2 u4 s6 s5 1) else (
f_X10_isRing_j150 I u1 u2 u4 s6 s5 0)))
theorem b_X10_isRing_l109 {G : rk_G} {l : Launch} {d kc ks : Nat} {n : Nat} {S : rk_Sh} {I : rk_I} {J : rk_J} {R : rk_R} {Q : rk_Q} {u1 : Int32} {u2 : Int32} {u4 : Int32} {s5 : Int32} {s6 : Int32} {r : (Int32 × Int32) ⊕ (Int32 × Int32)} (hd : 1 ≤ d) (hM : rk_LM S R) (hf : f_X10_isRing_l109 I u1 u2 u4 s5 s6 = some r) (hc : ∀ (w0 : Int32) (w1 : Int32), r = .inl (w0, w1) → AW G l yX10_isRing cX10_isRing 7 (some .boolean) d kc ks 109 [some (.ref 31), some (.int u1), some (.int u2), none, some (.int u4), some (.int w0), some (.int w1)] [] n S I J R Q) (he : ∀ (w0 : Int32) (w1 : Int32), r = .inr (w0, w1) → AW G l yX10_isRing cX10_isRing 7 (some .boolean) d kc ks 177 [some (.ref 31), some (.int u1), some (.int u2), none, some (.int u4), some (.int w0), some (.int w1)] [] n S I J R Q) :
    AW G l yX10_isRing cX10_isRing 7 (some .boolean) d kc ks 109 [some (.ref 31), some (.int u1), some (.int u2), none, some (.int u4), some (.int s5), some (.int s6)] [] n S I J R Q := by
  unfold f_X10_isRing_l109 at hf
  refine AW_iload_6 dX10_isRing_109 ?_
  refine AW_aload_n0 dX10_isRing_111 ?_
  refine AW_getI dX10_isRing_112 kf_X10_118 rfl (hM.1 31 (by decide) (by decide)) (by decide) ?_
  refine AW_icmp_ge 177 dX10_isRing_115 (by decide) (fun h1 => ?_) (fun h1 => ?_)
  · replace hf := rk_it hf h1
    refine AW_sb (rk_sbs (rk_sbs (rk_sbs (rk_sbn (rk_sbs (rk_sbs (rk_sbs rk_sb0))))))) ?_
    exact he _ _ (Option.some.inj hf).symm
  · replace hf := rk_if hf h1
    refine AW_iload_5 dX10_isRing_118 ?_
    refine AW_iload_n1 dX10_isRing_120 ?_
    refine AW_iload_6 dX10_isRing_121 ?_
    refine AW_ishr dX10_isRing_123 ?_
    refine AW_iconst (v := 1) dX10_isRing_124 (by decide) ?_
    refine AW_iand dX10_isRing_125 ?_
    refine AW_if_ne 133 dX10_isRing_126 (by decide) (fun h2 => ?_) (fun h2 => ?_)
    · replace hf := rk_if hf h2
      refine AW_aload_n0 dX10_isRing_133 ?_
      refine AW_getR dX10_isRing_134 kf_X10_38 rfl (hM.1 31 (by decide) (by decide)) (by decide) (hM.2 31 13 40 rfl) ?_
      refine AW_iload_6 dX10_isRing_137 ?_
      replace hf := rk_bd hf
      obtain ⟨x1, e1, hf⟩ := hf
      refine AW_rd dX10_isRing_139 (hM.1 40 (by decide) (by decide)) e1 ?_
      refine AW_iload_4 dX10_isRing_140 ?_
      refine AW_icmp_ne 149 dX10_isRing_142 (by decide) (fun h3 => ?_) (fun h3 => ?_)
      · replace hf := rk_if hf h3
        refine AW_iconst (v := 0) dX10_isRing_149 (by decide) ?_
        refine AW_sb (rk_sbs (rk_sbs (rk_sbs (rk_sbn (rk_sbs (rk_sbn (rk_sbs rk_sb0))))))) ?_
        exact b_X10_isRing_j150 (Nat.le_trans (by decide) hd) hM hf hc he
      · replace hf := rk_it hf h3
        refine AW_iconst (v := 1) dX10_isRing_145 (by decide) ?_
        refine AW_goto 150 dX10_isRing_146 (by decide) ?_
        refine AW_sb (rk_sbs (rk_sbs (rk_sbs (rk_sbn (rk_sbs (rk_sbn (rk_sbs rk_sb0))))))) ?_
        exact b_X10_isRing_j150 (Nat.le_trans (by decide) hd) hM hf hc he
    · replace hf := rk_it hf h2
      refine AW_iconst (v := 0) dX10_isRing_129 (by decide) ?_
      refine AW_goto 168 dX10_isRing_130 (by decide) ?_
      refine AW_iadd dX10_isRing_168 ?_
      refine AW_istore_5 dX10_isRing_169 (by decide) rfl ?_
      refine AW_iinc_6 (v := 1) dX10_isRing_171 (by decide) (by decide) rfl ?_
      refine AW_goto 109 dX10_isRing_174 (by decide) ?_
      refine AW_sb (rk_sbs (rk_sbs (rk_sbs (rk_sbn (rk_sbs (rk_sbs (rk_sbs rk_sb0))))))) ?_
      exact hc _ _ (Option.some.inj hf).symm
theorem L_X10_isRing_w109 {G : rk_G} {l : Launch} {d kc ks : Nat} {n : Nat} {S : rk_Sh} {I : rk_I} {J : rk_J} {R : rk_R} {Q : rk_Q} {u1 : Int32} {u2 : Int32} {u4 : Int32} {r : Int32 × Int32} (hd : 1 ≤ d) (hM : rk_LM S R) (he : ∀ (w0 : Int32) (w1 : Int32), r = (w0, w1) → AW G l yX10_isRing cX10_isRing 7 (some .boolean) d kc ks 177 [some (.ref 31), some (.int u1), some (.int u2), none, some (.int u4), some (.int w0), some (.int w1)] [] n S I J R Q) :
    ∀ (m9 : Nat) (s5 : Int32) (s6 : Int32) , rk_loop (fun a9 => f_X10_isRing_l109 I u1 u2 u4 a9.1 a9.2) m9 (s5, s6) = some r → AW G l yX10_isRing cX10_isRing 7 (some .boolean) d kc ks 109 [some (.ref 31), some (.int u1), some (.int u2), none, some (.int u4), some (.int s5), some (.int s6)] [] n S I J R Q := by
  intro m9
  induction m9 with
  | zero => intro s5 s6 hf; cases hf
  | succ m9 ih =>
    intro s5 s6 hf 
    obtain ⟨r9, hf, hr⟩ := rk_loop_s hf
    exact b_X10_isRing_l109 hd hM hf (fun _ _ h9 => by subst h9; exact ih _ _ hr) (fun _ _ h9 => by subst h9; exact he _ _ hr.symm)
noncomputable def f_X10_isRing_l84 (I : rk_I) (u1 : Int32) (u2 : Int32) (s4 : Int32) : Option ((Int32) ⊕ ((Int32) ⊕ (Int32))) :=
if 10 ≤ s4 then (
some (.inr (.inl s4))) else (
if ((u2 >>> (s4 &&& 31)) &&& 1) = 0 then (
some (.inl (s4 + 1))) else (
rk_b2 (rk_while (fun a9 => f_X10_isRing_l109 I u1 u2 s4 a9.1 a9.2) (0, 0)) fun x1 x2 =>
if x1 = 0 then (
(f_X10_reached I u1 s4).bind fun x3 =>
if x3 = u2 then (
some (.inl (s4 + 1))) else (
some (.inr (.inr 0)))) else (
some (.inr (.inr 0)))))
theorem b_X10_isRing_l84 {G : rk_G} {l : Launch} {d kc ks : Nat} {n : Nat} {S : rk_Sh} {I : rk_I} {J : rk_J} {R : rk_R} {Q : rk_Q} {u1 : Int32} {u2 : Int32} {s4 : Int32} {r : (Int32) ⊕ ((Int32) ⊕ (Int32))} (hd : 1 ≤ d) (hM : rk_LM S R) (hf : f_X10_isRing_l84 I u1 u2 s4 = some r) (hc : ∀ (w0 : Int32), r = .inl w0 → AW G l yX10_isRing cX10_isRing 7 (some .boolean) d kc ks 84 [some (.ref 31), some (.int u1), some (.int u2), none, some (.int w0), none, none] [] n S I J R Q) (he : ∀ (w0 : Int32), r = .inr (.inl w0) → AW G l yX10_isRing cX10_isRing 7 (some .boolean) d kc ks 201 [some (.ref 31), some (.int u1), some (.int u2), none, some (.int w0), none, none] [] n S I J R Q) (hq : ∀ (v9 : Int32), r = .inr (.inr v9) → Q (some (.int v9)) n S I J R) :
    AW G l yX10_isRing cX10_isRing 7 (some .boolean) d kc ks 84 [some (.ref 31), some (.int u1), some (.int u2), none, some (.int s4), none, none] [] n S I J R Q := by
  unfold f_X10_isRing_l84 at hf
  refine AW_iload_4 dX10_isRing_84 ?_
  refine AW_bipush (v := 10) dX10_isRing_86 (by decide) ?_
  refine AW_icmp_ge 201 dX10_isRing_88 (by decide) (fun h1 => ?_) (fun h1 => ?_)
  · replace hf := rk_it hf h1
    refine AW_sb (rk_sbs (rk_sbs (rk_sbs (rk_sbn (rk_sbs (rk_sbn (rk_sbn rk_sb0))))))) ?_
    exact he _ (Option.some.inj hf).symm
  · replace hf := rk_if hf h1
    refine AW_iload_n2 dX10_isRing_91 ?_
    refine AW_iload_4 dX10_isRing_92 ?_
    refine AW_ishr dX10_isRing_94 ?_
    refine AW_iconst (v := 1) dX10_isRing_95 (by decide) ?_
    refine AW_iand dX10_isRing_96 ?_
    refine AW_if_ne 103 dX10_isRing_97 (by decide) (fun h2 => ?_) (fun h2 => ?_)
    · replace hf := rk_if hf h2
      refine AW_iconst (v := 0) dX10_isRing_103 (by decide) ?_
      refine AW_istore_5 dX10_isRing_104 (by decide) rfl ?_
      refine AW_iconst (v := 0) dX10_isRing_106 (by decide) ?_
      refine AW_istore_6 dX10_isRing_107 (by decide) rfl ?_
      refine AW_sb (rk_sbs (rk_sbs (rk_sbs (rk_sbn (rk_sbs (rk_sbs (rk_sbs rk_sb0))))))) ?_
      replace hf := rk_bd2 hf
      obtain ⟨x1, x2, e1, hf⟩ := hf
      obtain ⟨m1, e1⟩ := rk_while_sp e1
      refine L_X10_isRing_w109 (Nat.le_trans (by decide) hd) hM ?_ m1 _ _ e1
      intro x1 x2 h9
      cases h9
      refine AW_iload_5 dX10_isRing_177 ?_
      refine AW_if_ne 193 dX10_isRing_179 (by decide) (fun h3 => ?_) (fun h3 => ?_)
      · replace hf := rk_if hf h3
        refine AW_iconst (v := 0) dX10_isRing_193 (by decide) ?_
        exact AW_zret dX10_isRing_194 rfl rfl (hq _ (Option.some.inj hf).symm)
      · replace hf := rk_it hf h3
        refine AW_aload_n0 dX10_isRing_182 ?_
        refine AW_iload_n1 dX10_isRing_183 ?_
        refine AW_iload_4 dX10_isRing_184 ?_
        replace hf := rk_bd hf
        obtain ⟨x3, e2, hf⟩ := hf
        refine AW_iV2iz (w_X10_reached (d := 0) hM e2) dX10_isRing_186 kl_X10_320 (hM.1 31 (by decide) (by decide)) rfl (Nat.le_trans (by decide) hd) (by decide) (Nat.le_of_ble_eq_true rfl) (fun _ => ?_)
        refine AW_iload_n2 dX10_isRing_189 ?_
        refine AW_icmp_eq 195 dX10_isRing_190 (by decide) (fun h4 => ?_) (fun h4 => ?_)
        · replace hf := rk_it hf h4
          refine AW_iinc_4 (v := 1) dX10_isRing_195 (by decide) (by decide) rfl ?_
          refine AW_goto 84 dX10_isRing_198 (by decide) ?_
          refine AW_sb (rk_sbs (rk_sbs (rk_sbs (rk_sbn (rk_sbs (rk_sbn (rk_sbn rk_sb0))))))) ?_
          exact hc _ (Option.some.inj hf).symm
        · replace hf := rk_if hf h4
          refine AW_iconst (v := 0) dX10_isRing_193 (by decide) ?_
          exact AW_zret dX10_isRing_194 rfl rfl (hq _ (Option.some.inj hf).symm)
    · replace hf := rk_it hf h2
      refine AW_goto 195 dX10_isRing_100 (by decide) ?_
      refine AW_iinc_4 (v := 1) dX10_isRing_195 (by decide) (by decide) rfl ?_
      refine AW_goto 84 dX10_isRing_198 (by decide) ?_
      refine AW_sb (rk_sbs (rk_sbs (rk_sbs (rk_sbn (rk_sbs (rk_sbn (rk_sbn rk_sb0))))))) ?_
      exact hc _ (Option.some.inj hf).symm
theorem L_X10_isRing_w84 {G : rk_G} {l : Launch} {d kc ks : Nat} {n : Nat} {S : rk_Sh} {I : rk_I} {J : rk_J} {R : rk_R} {Q : rk_Q} {u1 : Int32} {u2 : Int32} {r : (Int32) ⊕ (Int32)} (hd : 1 ≤ d) (hM : rk_LM S R) (he : ∀ (w0 : Int32), r = .inl w0 → AW G l yX10_isRing cX10_isRing 7 (some .boolean) d kc ks 201 [some (.ref 31), some (.int u1), some (.int u2), none, some (.int w0), none, none] [] n S I J R Q) (hq : ∀ (v9 : Int32), r = .inr v9 → Q (some (.int v9)) n S I J R) :
    ∀ (m9 : Nat) (s4 : Int32) , rk_loop (fun a9 => f_X10_isRing_l84 I u1 u2 a9) m9 s4 = some r → AW G l yX10_isRing cX10_isRing 7 (some .boolean) d kc ks 84 [some (.ref 31), some (.int u1), some (.int u2), none, some (.int s4), none, none] [] n S I J R Q := by
  intro m9
  induction m9 with
  | zero => intro s4 hf; cases hf
  | succ m9 ih =>
    intro s4 hf 
    obtain ⟨r9, hf, hr⟩ := rk_loop_s hf
    exact b_X10_isRing_l84 hd hM hf (fun _ h9 => by subst h9; exact ih _ hr) (fun _ h9 => by subst h9; exact he _ hr.symm) (fun _ h9 => by subst h9; exact hq _ hr.symm)
noncomputable def f_X10_isRing (I : rk_I) (a1 : Int32) : Option (Int32) :=
(rk_while (fun a9 => f_X10_isRing_l7 I a1 a9.1 a9.2.1 a9.2.2) (0, 0, 0)).bind fun q9 => rk_sc q9 (fun b9 => rk_p3 b9 (fun x1 x2 x3 => (
(rk_while (fun a9 => f_X10_isRing_l84 I a1 x1 a9) 0).bind fun q9 => rk_sc q9 (fun b9 => rk_p1 b9 (fun x4 => (
some 1))) (fun q8 => some q8)))) (fun q8 => some q8)
theorem b_X10_isRing {G : rk_G} {l : Launch} {d kc ks : Nat} {n : Nat} {S : rk_Sh} {I : rk_I} {J : rk_J} {R : rk_R} {Q : rk_Q} {a1 : Int32} {r : Int32} (hd : 1 ≤ d) (hM : rk_LM S R) (hf : f_X10_isRing I a1 = some r) (hq : ∀ (v9 : Int32), r = v9 → Q (some (.int v9)) n S I J R) :
    AW G l yX10_isRing cX10_isRing 7 (some .boolean) d kc ks 0 [some (.ref 31), some (.int a1), none, none, none, none, none] [] n S I J R Q := by
  unfold f_X10_isRing at hf
  refine AW_iconst (v := 0) dX10_isRing_0 (by decide) ?_
  refine AW_istore_n2 dX10_isRing_1 (by decide) rfl ?_
  refine AW_iconst (v := 0) dX10_isRing_2 (by decide) ?_
  refine AW_istore_n3 dX10_isRing_3 (by decide) rfl ?_
  refine AW_iconst (v := 0) dX10_isRing_4 (by decide) ?_
  refine AW_istore_4 dX10_isRing_5 (by decide) rfl ?_
  refine AW_sb (rk_sbs (rk_sbs (rk_sbs (rk_sbs (rk_sbs (rk_sbn (rk_sbn rk_sb0))))))) ?_
  replace hf := rk_bd hf
  obtain ⟨q9, e1, hf⟩ := hf
  obtain ⟨m1, e1⟩ := rk_while_sp e1
  refine L_X10_isRing_w7 (Nat.le_trans (by decide) hd) hM ?_ ?_ m1 _ _ _ e1
  · intro x1 x2 x3 h9
    subst h9
    replace hf := rk_scp3 hf
    refine AW_iconst (v := 0) dX10_isRing_81 (by decide) ?_
    refine AW_istore_4 dX10_isRing_82 (by decide) rfl ?_
    refine AW_sb (rk_sbs (rk_sbs (rk_sbs (rk_sbn (rk_sbs (rk_sbn (rk_sbn rk_sb0))))))) ?_
    replace hf := rk_bd hf
    obtain ⟨q9, e2, hf⟩ := hf
    obtain ⟨m2, e2⟩ := rk_while_sp e2
    refine L_X10_isRing_w84 (Nat.le_trans (by decide) hd) hM ?_ ?_ m2 _ e2
    · intro x4 h9
      subst h9
      replace hf := rk_scp1 hf
      refine AW_iconst (v := 1) dX10_isRing_201 (by decide) ?_
      exact AW_zret dX10_isRing_202 rfl rfl (hq _ (Option.some.inj hf).symm)
    · intro v7 h9
      subst h9
      replace hf := rk_sc_r hf
      exact hq _ (Option.some.inj hf).symm
  · intro v7 h9
    subst h9
    replace hf := rk_sc_r hf
    exact hq _ (Option.some.inj hf).symm
theorem w_X10_isRing {G : rk_G} {l : Launch} {d : Nat} {n : Nat} {S : rk_Sh} {I : rk_I} {J : rk_J} {R : rk_R} {a1 : Int32} {v8 : Int32} (hd : 1 ≤ d) (hM : rk_LM S R) (hf : f_X10_isRing I a1 = some v8) :
    CW G l yX10_isRing cX10_isRing 7 (some .boolean) d 0 0 [.ref 31, .int a1] n S I J R (rk_qi v8 n S I J R True) :=
  CW.of (by decide +kernel) (Nat.le_of_ble_eq_true rfl) (rk_sbs (rk_sbs (rk_sbe (rk_sbe (rk_sbe (rk_sbe (rk_sbe rk_sb0))))))) (b_X10_isRing hd hM hf (fun v9 h9 => by cases h9; exact ⟨rfl, rfl, rfl, rfl, rfl, rfl, trivial⟩))
noncomputable def f_X10_closes (I : rk_I) (a1 : Int32) : Option (Int32) :=
(f_X10_areSales I a1).bind fun x1 =>
if x1 = 0 then (
some (-2)) else (
(f_X10_isRing I a1).bind fun x2 =>
if x2 = 0 then (
some 0) else (
some 1))
theorem b_X10_closes {G : rk_G} {l : Launch} {d kc ks : Nat} {n : Nat} {S : rk_Sh} {I : rk_I} {J : rk_J} {R : rk_R} {Q : rk_Q} {a1 : Int32} {r : Int32} (hd : 2 ≤ d) (hM : rk_LM S R) (hf : f_X10_closes I a1 = some r) (hq : ∀ (v9 : Int32), r = v9 → Q (some (.int v9)) n S I J R) :
    AW G l yX10_closes cX10_closes 2 (some .int) d kc ks 0 [some (.ref 31), some (.int a1)] [] n S I J R Q := by
  unfold f_X10_closes at hf
  refine AW_aload_n0 dX10_closes_0 ?_
  refine AW_iload_n1 dX10_closes_1 ?_
  replace hf := rk_bd hf
  obtain ⟨x1, e1, hf⟩ := hf
  refine AW_iV1iz (w_X10_areSales (d := 1) (Nat.le_refl _) hM e1) dX10_closes_2 kl_X10_323 (hM.1 31 (by decide) (by decide)) rfl (Nat.le_trans (by decide) hd) (by decide) (Nat.le_of_ble_eq_true rfl) (fun _ => ?_)
  refine AW_if_eq 24 dX10_closes_5 (by decide) (fun h1 => ?_) (fun h1 => ?_)
  · replace hf := rk_it hf h1
    refine AW_bipush (v := (-2)) dX10_closes_24 (by decide) ?_
    exact AW_iret dX10_closes_26 rfl (hq _ (Option.some.inj hf).symm)
  · replace hf := rk_if hf h1
    refine AW_aload_n0 dX10_closes_8 ?_
    refine AW_iload_n1 dX10_closes_9 ?_
    replace hf := rk_bd hf
    obtain ⟨x2, e2, hf⟩ := hf
    refine AW_iV1iz (w_X10_isRing (d := 1) (Nat.le_refl _) hM e2) dX10_closes_10 kl_X10_326 (hM.1 31 (by decide) (by decide)) rfl (Nat.le_trans (by decide) hd) (by decide) (Nat.le_of_ble_eq_true rfl) (fun _ => ?_)
    refine AW_if_eq 20 dX10_closes_13 (by decide) (fun h2 => ?_) (fun h2 => ?_)
    · replace hf := rk_it hf h2
      refine AW_iconst (v := 0) dX10_closes_20 (by decide) ?_
      refine AW_goto 26 dX10_closes_21 (by decide) ?_
      exact AW_iret dX10_closes_26 rfl (hq _ (Option.some.inj hf).symm)
    · replace hf := rk_if hf h2
      refine AW_iconst (v := 1) dX10_closes_16 (by decide) ?_
      refine AW_goto 26 dX10_closes_17 (by decide) ?_
      exact AW_iret dX10_closes_26 rfl (hq _ (Option.some.inj hf).symm)
theorem w_X10_closes {G : rk_G} {l : Launch} {d : Nat} {n : Nat} {S : rk_Sh} {I : rk_I} {J : rk_J} {R : rk_R} {a1 : Int32} {v8 : Int32} (hd : 2 ≤ d) (hM : rk_LM S R) (hf : f_X10_closes I a1 = some v8) :
    CW G l yX10_closes cX10_closes 2 (some .int) d 0 0 [.ref 31, .int a1] n S I J R (rk_qi v8 n S I J R True) :=
  CW.of (by decide +kernel) (Nat.le_of_ble_eq_true rfl) (rk_sbs (rk_sbs rk_sb0)) (b_X10_closes hd hM hf (fun v9 h9 => by cases h9; exact ⟨rfl, rfl, rfl, rfl, rfl, rfl, trivial⟩))
noncomputable def f_X9_differenceOf_l5 (S : rk_Sh) (I : rk_I) (R : rk_R) (u1 : Int32) (u2 : Int32) (s3 : Int64) (s5 : Int32) : Option ((Int64 × Int32) ⊕ (Int64 × Int32)) :=
if (I 0 3) ≤ s5 then (
some (.inr (s3, s5))) else (
if ((rk_us u2 s5) &&& 1) = 0 then (
some (.inl (s3, (s5 + 1)))) else (
(rk_rdR R 2 24 s5).bind fun q1 =>
(rk_dr S 5 11 q1).bind fun o1 =>
if (I o1 2) = u1 then (
(f_X5_due I o1).bind fun x2 =>
some (.inl ((s3 + x2.toInt64), (s5 + 1)))) else (
if (I o1 3) = u1 then (
(f_X5_due I o1).bind fun x1 =>
some (.inl ((s3 - x1.toInt64), (s5 + 1)))) else (
some (.inl (s3, (s5 + 1)))))))
theorem b_X9_differenceOf_l5 {G : rk_G} {l : Launch} {d kc ks : Nat} {n : Nat} {S : rk_Sh} {I : rk_I} {J : rk_J} {R : rk_R} {Q : rk_Q} {u1 : Int32} {u2 : Int32} {s3 : Int64} {s5 : Int32} {r : (Int64 × Int32) ⊕ (Int64 × Int32)} (hd : 1 ≤ d) (hL : rk_LC S R) (hf : f_X9_differenceOf_l5 S I R u1 u2 s3 s5 = some r) (hc : ∀ (w0 : Int64) (w1 : Int32), r = .inl (w0, w1) → AW G l yX9_differenceOf cX9_differenceOf 6 (some .long) d kc ks 5 [some (.ref 0), some (.int u1), some (.int u2), some (.long w0), none, some (.int w1)] [] n S I J R Q) (he : ∀ (w0 : Int64) (w1 : Int32), r = .inr (w0, w1) → AW G l yX9_differenceOf cX9_differenceOf 6 (some .long) d kc ks 91 [some (.ref 0), some (.int u1), some (.int u2), some (.long w0), none, some (.int w1)] [] n S I J R Q) :
    AW G l yX9_differenceOf cX9_differenceOf 6 (some .long) d kc ks 5 [some (.ref 0), some (.int u1), some (.int u2), some (.long s3), none, some (.int s5)] [] n S I J R Q := by
  unfold f_X9_differenceOf_l5 at hf
  refine AW_iload_5 dX9_differenceOf_5 ?_
  refine AW_aload_n0 dX9_differenceOf_7 ?_
  refine AW_getI dX9_differenceOf_8 kf_X9_125 rfl (hL.1 0 (by decide)) (by decide) ?_
  refine AW_icmp_ge 91 dX9_differenceOf_11 (by decide) (fun h1 => ?_) (fun h1 => ?_)
  · replace hf := rk_it hf h1
    refine AW_sb (rk_sbs (rk_sbs (rk_sbs (rk_sbs (rk_sbn (rk_sbs rk_sb0)))))) ?_
    exact he _ _ (Option.some.inj hf).symm
  · replace hf := rk_if hf h1
    refine AW_iload_n2 dX9_differenceOf_14 ?_
    refine AW_iload_5 dX9_differenceOf_15 ?_
    refine AW_us dX9_differenceOf_17 ?_
    refine AW_iconst (v := 1) dX9_differenceOf_18 (by decide) ?_
    refine AW_iand dX9_differenceOf_19 ?_
    refine AW_if_ne 26 dX9_differenceOf_20 (by decide) (fun h2 => ?_) (fun h2 => ?_)
    · replace hf := rk_if hf h2
      refine AW_aload_n0 dX9_differenceOf_26 ?_
      refine AW_getR dX9_differenceOf_27 kf_X9_17 rfl (hL.1 0 (by decide)) (by decide) (hL.2 0 2 2 rfl) ?_
      refine AW_iload_5 dX9_differenceOf_30 ?_
      replace hf := rk_bd hf
      obtain ⟨q1, e1, hf⟩ := hf
      refine AW_rdR dX9_differenceOf_32 (hL.1 2 (by decide)) (by decide) e1 ?_
      replace hf := rk_bd hf
      obtain ⟨o1, e2, hf⟩ := hf
      obtain ⟨e2, hS1⟩ := rk_dr_sp e2
      subst e2
      refine AW_getI dX9_differenceOf_33 kf_X9_202 rfl hS1 (by decide) ?_
      refine AW_iload_n1 dX9_differenceOf_36 ?_
      refine AW_icmp_ne 57 dX9_differenceOf_37 (by decide) (fun h3 => ?_) (fun h3 => ?_)
      · replace hf := rk_if hf h3
        refine AW_aload_n0 dX9_differenceOf_57 ?_
        refine AW_getR dX9_differenceOf_58 kf_X9_17 rfl (hL.1 0 (by decide)) (by decide) (hL.2 0 2 2 rfl) ?_
        refine AW_iload_5 dX9_differenceOf_61 ?_
        refine AW_rdR (q := (some o1)) dX9_differenceOf_63 (hL.1 2 (by decide)) (by decide) e1 ?_
        refine AW_getI dX9_differenceOf_64 kf_X9_205 rfl hS1 (by decide) ?_
        refine AW_iload_n1 dX9_differenceOf_67 ?_
        refine AW_icmp_ne 85 dX9_differenceOf_68 (by decide) (fun h4 => ?_) (fun h4 => ?_)
        · replace hf := rk_if hf h4
          refine AW_iinc_5 (v := 1) dX9_differenceOf_85 (by decide) (by decide) rfl ?_
          refine AW_goto 5 dX9_differenceOf_88 (by decide) ?_
          refine AW_sb (rk_sbs (rk_sbs (rk_sbs (rk_sbs (rk_sbn (rk_sbs rk_sb0)))))) ?_
          exact hc _ _ (Option.some.inj hf).symm
        · replace hf := rk_it hf h4
          refine AW_lload_n3 dX9_differenceOf_71 ?_
          refine AW_aload_n0 dX9_differenceOf_72 ?_
          refine AW_getR dX9_differenceOf_73 kf_X9_17 rfl (hL.1 0 (by decide)) (by decide) (hL.2 0 2 2 rfl) ?_
          refine AW_iload_5 dX9_differenceOf_76 ?_
          refine AW_rdR (q := (some o1)) dX9_differenceOf_78 (hL.1 2 (by decide)) (by decide) e1 ?_
          replace hf := rk_bd hf
          obtain ⟨x1, e3, hf⟩ := hf
          refine AW_iV0iz (w_X5_due (d := 0) hS1 e3) dX9_differenceOf_79 kl_X9_336 hS1 rfl (Nat.le_trans (by decide) hd) (by decide) (Nat.le_of_ble_eq_true rfl) (fun _ => ?_)
          refine AW_i2l dX9_differenceOf_82 ?_
          refine AW_lsub dX9_differenceOf_83 ?_
          refine AW_lstore_n3 dX9_differenceOf_84 (by decide) rfl ?_
          refine AW_iinc_5 (v := 1) dX9_differenceOf_85 (by decide) (by decide) rfl ?_
          refine AW_goto 5 dX9_differenceOf_88 (by decide) ?_
          refine AW_sb (rk_sbs (rk_sbs (rk_sbs (rk_sbs (rk_sbn (rk_sbs rk_sb0)))))) ?_
          exact hc _ _ (Option.some.inj hf).symm
      · replace hf := rk_it hf h3
        refine AW_lload_n3 dX9_differenceOf_40 ?_
        refine AW_aload_n0 dX9_differenceOf_41 ?_
        refine AW_getR dX9_differenceOf_42 kf_X9_17 rfl (hL.1 0 (by decide)) (by decide) (hL.2 0 2 2 rfl) ?_
        refine AW_iload_5 dX9_differenceOf_45 ?_
        refine AW_rdR (q := (some o1)) dX9_differenceOf_47 (hL.1 2 (by decide)) (by decide) e1 ?_
        replace hf := rk_bd hf
        obtain ⟨x2, e4, hf⟩ := hf
        refine AW_iV0iz (w_X5_due (d := 0) hS1 e4) dX9_differenceOf_48 kl_X9_336 hS1 rfl (Nat.le_trans (by decide) hd) (by decide) (Nat.le_of_ble_eq_true rfl) (fun _ => ?_)
        refine AW_i2l dX9_differenceOf_51 ?_
        refine AW_ladd dX9_differenceOf_52 ?_
        refine AW_lstore_n3 dX9_differenceOf_53 (by decide) rfl ?_
        refine AW_goto 85 dX9_differenceOf_54 (by decide) ?_
        refine AW_iinc_5 (v := 1) dX9_differenceOf_85 (by decide) (by decide) rfl ?_
        refine AW_goto 5 dX9_differenceOf_88 (by decide) ?_
        refine AW_sb (rk_sbs (rk_sbs (rk_sbs (rk_sbs (rk_sbn (rk_sbs rk_sb0)))))) ?_
        exact hc _ _ (Option.some.inj hf).symm
    · replace hf := rk_it hf h2
      refine AW_goto 85 dX9_differenceOf_23 (by decide) ?_
      refine AW_iinc_5 (v := 1) dX9_differenceOf_85 (by decide) (by decide) rfl ?_
      refine AW_goto 5 dX9_differenceOf_88 (by decide) ?_
      refine AW_sb (rk_sbs (rk_sbs (rk_sbs (rk_sbs (rk_sbn (rk_sbs rk_sb0)))))) ?_
      exact hc _ _ (Option.some.inj hf).symm
theorem L_X9_differenceOf_w5 {G : rk_G} {l : Launch} {d kc ks : Nat} {n : Nat} {S : rk_Sh} {I : rk_I} {J : rk_J} {R : rk_R} {Q : rk_Q} {u1 : Int32} {u2 : Int32} {r : Int64 × Int32} (hd : 1 ≤ d) (hL : rk_LC S R) (he : ∀ (w0 : Int64) (w1 : Int32), r = (w0, w1) → AW G l yX9_differenceOf cX9_differenceOf 6 (some .long) d kc ks 91 [some (.ref 0), some (.int u1), some (.int u2), some (.long w0), none, some (.int w1)] [] n S I J R Q) :
    ∀ (m9 : Nat) (s3 : Int64) (s5 : Int32) , rk_loop (fun a9 => f_X9_differenceOf_l5 S I R u1 u2 a9.1 a9.2) m9 (s3, s5) = some r → AW G l yX9_differenceOf cX9_differenceOf 6 (some .long) d kc ks 5 [some (.ref 0), some (.int u1), some (.int u2), some (.long s3), none, some (.int s5)] [] n S I J R Q := by
  intro m9
  induction m9 with
  | zero => intro s3 s5 hf; cases hf
  | succ m9 ih =>
    intro s3 s5 hf 
    obtain ⟨r9, hf, hr⟩ := rk_loop_s hf
    exact b_X9_differenceOf_l5 hd hL hf (fun _ _ h9 => by subst h9; exact ih _ _ hr) (fun _ _ h9 => by subst h9; exact he _ _ hr.symm)
noncomputable def f_X9_differenceOf (S : rk_Sh) (I : rk_I) (R : rk_R) (a1 : Int32) (a2 : Int32) : Option (Int64) :=
rk_b2 (rk_while (fun a9 => f_X9_differenceOf_l5 S I R a1 a2 a9.1 a9.2) (0, 0)) fun x1 x2 =>
some x1
theorem b_X9_differenceOf {G : rk_G} {l : Launch} {d kc ks : Nat} {n : Nat} {S : rk_Sh} {I : rk_I} {J : rk_J} {R : rk_R} {Q : rk_Q} {a1 : Int32} {a2 : Int32} {r : Int64} (hd : 1 ≤ d) (hL : rk_LC S R) (hf : f_X9_differenceOf S I R a1 a2 = some r) (hq : ∀ (v9 : Int64), r = v9 → Q (some (.long v9)) n S I J R) :
    AW G l yX9_differenceOf cX9_differenceOf 6 (some .long) d kc ks 0 [some (.ref 0), some (.int a1), some (.int a2), none, none, none] [] n S I J R Q := by
  unfold f_X9_differenceOf at hf
  refine AW_lconst (v := 0) dX9_differenceOf_0 (by decide) ?_
  refine AW_lstore_n3 dX9_differenceOf_1 (by decide) rfl ?_
  refine AW_iconst (v := 0) dX9_differenceOf_2 (by decide) ?_
  refine AW_istore_5 dX9_differenceOf_3 (by decide) rfl ?_
  refine AW_sb (rk_sbs (rk_sbs (rk_sbs (rk_sbs (rk_sbn (rk_sbs rk_sb0)))))) ?_
  replace hf := rk_bd2 hf
  obtain ⟨x1, x2, e1, hf⟩ := hf
  obtain ⟨m1, e1⟩ := rk_while_sp e1
  refine L_X9_differenceOf_w5 (Nat.le_trans (by decide) hd) hL ?_ m1 _ _ e1
  intro x1 x2 h9
  cases h9
  refine AW_lload_n3 dX9_differenceOf_91 ?_
  exact AW_lret dX9_differenceOf_92 rfl (hq _ (Option.some.inj hf).symm)
theorem w_X9_differenceOf {G : rk_G} {l : Launch} {d : Nat} {n : Nat} {S : rk_Sh} {I : rk_I} {J : rk_J} {R : rk_R} {a1 : Int32} {a2 : Int32} {v8 : Int64} (hd : 1 ≤ d) (hL : rk_LC S R) (hf : f_X9_differenceOf S I R a1 a2 = some v8) :
    CW G l yX9_differenceOf cX9_differenceOf 6 (some .long) d 0 0 [.ref 0, .int a1, .int a2] n S I J R (rk_ql v8 n S I J R True) :=
  CW.of (by decide +kernel) (Nat.le_of_ble_eq_true rfl) (rk_sbs (rk_sbs (rk_sbs (rk_sbe (rk_sbe (rk_sbe rk_sb0)))))) (b_X9_differenceOf hd hL hf (fun v9 h9 => by cases h9; exact ⟨rfl, rfl, rfl, rfl, rfl, rfl, trivial⟩))
noncomputable def f_X9_differ (S : rk_Sh) (I : rk_I) (R : rk_R) (a1 : Int32) (a2 : Int32) : Option (Int64 × rk_I × rk_R) :=
(f_X9_isHand a2).bind fun x1 =>
if x1 = 0 then (
some ((-4611686018427387904), I, R)) else (
(f_X9_areOfOneCargo S I R a1).bind fun x2 =>
if x2 = 0 then (
some ((-2), I, R)) else (
rk_b3 (f_X4_isRing_16_2 S I R (I 0 3) a1) fun x3 I1 R1 =>
if x3 = 0 then (
some ((-3), I1, R1)) else (
(f_X9_differenceOf S I1 R1 a2 a1).bind fun x4 =>
some (x4, I1, R1))))
theorem b_X9_differ {G : rk_G} {l : Launch} {d kc ks : Nat} {n : Nat} {S : rk_Sh} {I : rk_I} {J : rk_J} {R : rk_R} {Q : rk_Q} {a1 : Int32} {a2 : Int32} {r : Int64 × rk_I × rk_R} (hd : 3 ≤ d) (hL : rk_LC S R) (hf : f_X9_differ S I R a1 a2 = some r) (hq : ∀ (v9 : Int64) (I9 : rk_I) (R9 : rk_R), r = (v9, I9, R9) → rk_LC S R9 → Q (some (.long v9)) n S I9 J R9) :
    AW G l yX9_differ cX9_differ 3 (some .long) d kc ks 0 [some (.ref 0), some (.int a1), some (.int a2)] [] n S I J R Q := by
  unfold f_X9_differ at hf
  refine AW_iload_n2 dX9_differ_0 ?_
  replace hf := rk_bd hf
  obtain ⟨x1, e1, hf⟩ := hf
  refine AW_iS1iz (w_X9_isHand (d := 0) e1) dX9_differ_1 kl_X9_100 (Nat.le_trans (by decide) hd) (by decide) (Nat.le_of_ble_eq_true rfl) (fun _ => ?_)
  refine AW_if_ne 11 dX9_differ_4 (by decide) (fun h1 => ?_) (fun h1 => ?_)
  · replace hf := rk_if hf h1
    refine AW_aload_n0 dX9_differ_11 ?_
    refine AW_iload_n1 dX9_differ_12 ?_
    replace hf := rk_bd hf
    obtain ⟨x2, e2, hf⟩ := hf
    refine AW_iV1iz (w_X9_areOfOneCargo (d := 0) hL e2) dX9_differ_13 kl_X9_208 (hL.1 0 (by decide)) rfl (Nat.le_trans (by decide) hd) (by decide) (Nat.le_of_ble_eq_true rfl) (fun _ => ?_)
    refine AW_if_ne 23 dX9_differ_16 (by decide) (fun h2 => ?_) (fun h2 => ?_)
    · replace hf := rk_if hf h2
      refine AW_aload_n0 dX9_differ_23 ?_
      refine AW_getR dX9_differ_24 kf_X9_51 rfl (hL.1 0 (by decide)) (by decide) (hL.2 0 10 16 rfl) ?_
      refine AW_aload_n0 dX9_differ_27 ?_
      refine AW_getR dX9_differ_28 kf_X9_17 rfl (hL.1 0 (by decide)) (by decide) (hL.2 0 2 2 rfl) ?_
      refine AW_aload_n0 dX9_differ_31 ?_
      refine AW_getI dX9_differ_32 kf_X9_125 rfl (hL.1 0 (by decide)) (by decide) ?_
      refine AW_iload_n1 dX9_differ_35 ?_
      replace hf := rk_bd3 hf
      obtain ⟨x3, I1, R1, e3, hf⟩ := hf
      refine AW_iV3iz (w_X4_isRing_16_2 (d := 2) (Nat.le_refl _) hL e3) dX9_differ_36 kl_X9_211 (hL.1 16 (by decide)) rfl (Nat.le_trans (by decide) hd) (by decide) (Nat.le_of_ble_eq_true rfl) (fun hL1 => ?_)
      refine AW_if_eq 51 dX9_differ_39 (by decide) (fun h3 => ?_) (fun h3 => ?_)
      · replace hf := rk_it hf h3
        refine AW_ldc2 dX9_differ_51 kv_X9_221 ?_
        exact AW_lret dX9_differ_54 rfl (hq _ _ _ (Option.some.inj hf).symm hL1)
      · replace hf := rk_if hf h3
        refine AW_aload_n0 dX9_differ_42 ?_
        refine AW_iload_n2 dX9_differ_43 ?_
        refine AW_iload_n1 dX9_differ_44 ?_
        replace hf := rk_bd hf
        obtain ⟨x4, e4, hf⟩ := hf
        refine AW_iV2lz (w_X9_differenceOf (d := 1) (Nat.le_refl _) hL1 e4) dX9_differ_45 kl_X9_217 (hL1.1 0 (by decide)) rfl (Nat.le_trans (by decide) hd) (by decide) (Nat.le_of_ble_eq_true rfl) (fun _ => ?_)
        refine AW_goto 54 dX9_differ_48 (by decide) ?_
        exact AW_lret dX9_differ_54 rfl (hq _ _ _ (Option.some.inj hf).symm hL1)
    · replace hf := rk_it hf h2
      refine AW_ldc2 dX9_differ_19 kv_X9_215 ?_
      exact AW_lret dX9_differ_22 rfl (hq _ _ _ (Option.some.inj hf).symm hL)
  · replace hf := rk_it hf h1
    refine AW_ldc2 dX9_differ_7 kv_X9_156 ?_
    exact AW_lret dX9_differ_10 rfl (hq _ _ _ (Option.some.inj hf).symm hL)
theorem w_X9_differ {G : rk_G} {l : Launch} {d : Nat} {n : Nat} {S : rk_Sh} {I : rk_I} {J : rk_J} {R : rk_R} {a1 : Int32} {a2 : Int32} {v8 : Int64} {I8 : rk_I} {R8 : rk_R} (hd : 3 ≤ d) (hL : rk_LC S R) (hf : f_X9_differ S I R a1 a2 = some (v8, I8, R8)) :
    CW G l yX9_differ cX9_differ 3 (some .long) d 0 0 [.ref 0, .int a1, .int a2] n S I J R (rk_ql v8 n S I8 J R8 (rk_LC S R8)) :=
  CW.of (by decide +kernel) (Nat.le_of_ble_eq_true rfl) (rk_sbs (rk_sbs (rk_sbs rk_sb0))) (b_X9_differ hd hL hf (fun v9 I9 R9 h9 hl9 => by cases h9; exact ⟨rfl, rfl, rfl, rfl, rfl, rfl, hl9⟩))
noncomputable def f_X10_differ_j84 (I : rk_I) (u1 : Int32) (u2 : Int32) (j5 : Int32) (t0 : Int64) (t1 : Int64) : Option ((Int64 × Int32) ⊕ (Int64 × Int32)) :=
(rk_rd I 41 24 j5).bind fun x1 =>
if x1 = u2 then (
(f_X10_dueOf I j5).bind fun x2 =>
some (.inl (((t0 + t1) - x2.toInt64), (j5 + 1)))) else (
some (.inl (((t0 + t1) - 0), (j5 + 1))))
theorem b_X10_differ_j84 {G : rk_G} {l : Launch} {d kc ks : Nat} {n : Nat} {S : rk_Sh} {I : rk_I} {J : rk_J} {R : rk_R} {Q : rk_Q} {u1 : Int32} {u2 : Int32} {j5 : Int32} {t0 : Int64} {t1 : Int64} {r : (Int64 × Int32) ⊕ (Int64 × Int32)} (hd : 2 ≤ d) (hM : rk_LM S R) (hf : f_X10_differ_j84 I u1 u2 j5 t0 t1 = some r) (hc : ∀ (w0 : Int64) (w1 : Int32), r = .inl (w0, w1) → AW G l yX10_differ cX10_differ 6 (some .long) d kc ks 40 [some (.ref 31), some (.int u1), some (.int u2), some (.long w0), none, some (.int w1)] [] n S I J R Q) (he : ∀ (w0 : Int64) (w1 : Int32), r = .inr (w0, w1) → AW G l yX10_differ cX10_differ 6 (some .long) d kc ks 117 [some (.ref 31), some (.int u1), some (.int u2), some (.long w0), none, some (.int w1)] [] n S I J R Q) :
    AW G l yX10_differ cX10_differ 6 (some .long) d kc ks 84 [some (.ref 31), some (.int u1), some (.int u2), none, none, some (.int j5)] [.long t1, .long t0] n S I J R Q := by
  unfold f_X10_differ_j84 at hf
  refine AW_ladd dX10_differ_84 ?_
  refine AW_lstore_n3 dX10_differ_85 (by decide) rfl ?_
  refine AW_lload_n3 dX10_differ_86 ?_
  refine AW_aload_n0 dX10_differ_87 ?_
  refine AW_getR dX10_differ_88 kf_X10_41 rfl (hM.1 31 (by decide) (by decide)) (by decide) (hM.2 31 14 41 rfl) ?_
  refine AW_iload_5 dX10_differ_91 ?_
  replace hf := rk_bd hf
  obtain ⟨x1, e1, hf⟩ := hf
  refine AW_rd dX10_differ_93 (hM.1 41 (by decide) (by decide)) e1 ?_
  refine AW_iload_n2 dX10_differ_94 ?_
  refine AW_icmp_ne 108 dX10_differ_95 (by decide) (fun h1 => ?_) (fun h1 => ?_)
  · replace hf := rk_if hf h1
    refine AW_lconst (v := 0) dX10_differ_108 (by decide) ?_
    refine AW_lsub dX10_differ_109 ?_
    refine AW_lstore_n3 dX10_differ_110 (by decide) rfl ?_
    refine AW_iinc_5 (v := 1) dX10_differ_111 (by decide) (by decide) rfl ?_
    refine AW_goto 40 dX10_differ_114 (by decide) ?_
    refine AW_sb (rk_sbs (rk_sbs (rk_sbs (rk_sbs (rk_sbn (rk_sbs rk_sb0)))))) ?_
    exact hc _ _ (Option.some.inj hf).symm
  · replace hf := rk_it hf h1
    refine AW_aload_n0 dX10_differ_98 ?_
    refine AW_iload_5 dX10_differ_99 ?_
    replace hf := rk_bd hf
    obtain ⟨x2, e2, hf⟩ := hf
    refine AW_iV1iz (w_X10_dueOf (d := 0) hM e2) dX10_differ_101 kl_X10_254 (hM.1 31 (by decide) (by decide)) rfl (Nat.le_trans (by decide) hd) (by decide) (Nat.le_of_ble_eq_true rfl) (fun _ => ?_)
    refine AW_i2l dX10_differ_104 ?_
    refine AW_goto 109 dX10_differ_105 (by decide) ?_
    refine AW_lsub dX10_differ_109 ?_
    refine AW_lstore_n3 dX10_differ_110 (by decide) rfl ?_
    refine AW_iinc_5 (v := 1) dX10_differ_111 (by decide) (by decide) rfl ?_
    refine AW_goto 40 dX10_differ_114 (by decide) ?_
    refine AW_sb (rk_sbs (rk_sbs (rk_sbs (rk_sbs (rk_sbn (rk_sbs rk_sb0)))))) ?_
    exact hc _ _ (Option.some.inj hf).symm
noncomputable def f_X10_differ_l40 (I : rk_I) (u1 : Int32) (u2 : Int32) (s3 : Int64) (s5 : Int32) : Option ((Int64 × Int32) ⊕ (Int64 × Int32)) :=
if (I 31 20) ≤ s5 then (
some (.inr (s3, s5))) else (
if ((u1 >>> (s5 &&& 31)) &&& 1) = 0 then (
some (.inl (s3, (s5 + 1)))) else (
(rk_rd I 40 24 s5).bind fun x1 =>
if x1 = u2 then (
(f_X10_dueOf I s5).bind fun x2 =>
f_X10_differ_j84 I u1 u2 s5 s3 x2.toInt64) else (
f_X10_differ_j84 I u1 u2 s5 s3 0)))
theorem b_X10_differ_l40 {G : rk_G} {l : Launch} {d kc ks : Nat} {n : Nat} {S : rk_Sh} {I : rk_I} {J : rk_J} {R : rk_R} {Q : rk_Q} {u1 : Int32} {u2 : Int32} {s3 : Int64} {s5 : Int32} {r : (Int64 × Int32) ⊕ (Int64 × Int32)} (hd : 2 ≤ d) (hM : rk_LM S R) (hf : f_X10_differ_l40 I u1 u2 s3 s5 = some r) (hc : ∀ (w0 : Int64) (w1 : Int32), r = .inl (w0, w1) → AW G l yX10_differ cX10_differ 6 (some .long) d kc ks 40 [some (.ref 31), some (.int u1), some (.int u2), some (.long w0), none, some (.int w1)] [] n S I J R Q) (he : ∀ (w0 : Int64) (w1 : Int32), r = .inr (w0, w1) → AW G l yX10_differ cX10_differ 6 (some .long) d kc ks 117 [some (.ref 31), some (.int u1), some (.int u2), some (.long w0), none, some (.int w1)] [] n S I J R Q) :
    AW G l yX10_differ cX10_differ 6 (some .long) d kc ks 40 [some (.ref 31), some (.int u1), some (.int u2), some (.long s3), none, some (.int s5)] [] n S I J R Q := by
  unfold f_X10_differ_l40 at hf
  refine AW_iload_5 dX10_differ_40 ?_
  refine AW_aload_n0 dX10_differ_42 ?_
  refine AW_getI dX10_differ_43 kf_X10_118 rfl (hM.1 31 (by decide) (by decide)) (by decide) ?_
  refine AW_icmp_ge 117 dX10_differ_46 (by decide) (fun h1 => ?_) (fun h1 => ?_)
  · replace hf := rk_it hf h1
    refine AW_sb (rk_sbs (rk_sbs (rk_sbs (rk_sbs (rk_sbn (rk_sbs rk_sb0)))))) ?_
    exact he _ _ (Option.some.inj hf).symm
  · replace hf := rk_if hf h1
    refine AW_iload_n1 dX10_differ_49 ?_
    refine AW_iload_5 dX10_differ_50 ?_
    refine AW_ishr dX10_differ_52 ?_
    refine AW_iconst (v := 1) dX10_differ_53 (by decide) ?_
    refine AW_iand dX10_differ_54 ?_
    refine AW_if_ne 61 dX10_differ_55 (by decide) (fun h2 => ?_) (fun h2 => ?_)
    · replace hf := rk_if hf h2
      refine AW_lload_n3 dX10_differ_61 ?_
      refine AW_aload_n0 dX10_differ_62 ?_
      refine AW_getR dX10_differ_63 kf_X10_38 rfl (hM.1 31 (by decide) (by decide)) (by decide) (hM.2 31 13 40 rfl) ?_
      refine AW_iload_5 dX10_differ_66 ?_
      replace hf := rk_bd hf
      obtain ⟨x1, e1, hf⟩ := hf
      refine AW_rd dX10_differ_68 (hM.1 40 (by decide) (by decide)) e1 ?_
      refine AW_iload_n2 dX10_differ_69 ?_
      refine AW_icmp_ne 83 dX10_differ_70 (by decide) (fun h3 => ?_) (fun h3 => ?_)
      · replace hf := rk_if hf h3
        refine AW_lconst (v := 0) dX10_differ_83 (by decide) ?_
        refine AW_sb (rk_sbs (rk_sbs (rk_sbs (rk_sbn (rk_sbn (rk_sbs rk_sb0)))))) ?_
        exact b_X10_differ_j84 (Nat.le_trans (by decide) hd) hM hf hc he
      · replace hf := rk_it hf h3
        refine AW_aload_n0 dX10_differ_73 ?_
        refine AW_iload_5 dX10_differ_74 ?_
        replace hf := rk_bd hf
        obtain ⟨x2, e2, hf⟩ := hf
        refine AW_iV1iz (w_X10_dueOf (d := 0) hM e2) dX10_differ_76 kl_X10_254 (hM.1 31 (by decide) (by decide)) rfl (Nat.le_trans (by decide) hd) (by decide) (Nat.le_of_ble_eq_true rfl) (fun _ => ?_)
        refine AW_i2l dX10_differ_79 ?_
        refine AW_goto 84 dX10_differ_80 (by decide) ?_
        refine AW_sb (rk_sbs (rk_sbs (rk_sbs (rk_sbn (rk_sbn (rk_sbs rk_sb0)))))) ?_
        exact b_X10_differ_j84 (Nat.le_trans (by decide) hd) hM hf hc he
    · replace hf := rk_it hf h2
      refine AW_goto 111 dX10_differ_58 (by decide) ?_
      refine AW_iinc_5 (v := 1) dX10_differ_111 (by decide) (by decide) rfl ?_
      refine AW_goto 40 dX10_differ_114 (by decide) ?_
      refine AW_sb (rk_sbs (rk_sbs (rk_sbs (rk_sbs (rk_sbn (rk_sbs rk_sb0)))))) ?_
      exact hc _ _ (Option.some.inj hf).symm
theorem L_X10_differ_w40 {G : rk_G} {l : Launch} {d kc ks : Nat} {n : Nat} {S : rk_Sh} {I : rk_I} {J : rk_J} {R : rk_R} {Q : rk_Q} {u1 : Int32} {u2 : Int32} {r : Int64 × Int32} (hd : 2 ≤ d) (hM : rk_LM S R) (he : ∀ (w0 : Int64) (w1 : Int32), r = (w0, w1) → AW G l yX10_differ cX10_differ 6 (some .long) d kc ks 117 [some (.ref 31), some (.int u1), some (.int u2), some (.long w0), none, some (.int w1)] [] n S I J R Q) :
    ∀ (m9 : Nat) (s3 : Int64) (s5 : Int32) , rk_loop (fun a9 => f_X10_differ_l40 I u1 u2 a9.1 a9.2) m9 (s3, s5) = some r → AW G l yX10_differ cX10_differ 6 (some .long) d kc ks 40 [some (.ref 31), some (.int u1), some (.int u2), some (.long s3), none, some (.int s5)] [] n S I J R Q := by
  intro m9
  induction m9 with
  | zero => intro s3 s5 hf; cases hf
  | succ m9 ih =>
    intro s3 s5 hf 
    obtain ⟨r9, hf, hr⟩ := rk_loop_s hf
    exact b_X10_differ_l40 hd hM hf (fun _ _ h9 => by subst h9; exact ih _ _ hr) (fun _ _ h9 => by subst h9; exact he _ _ hr.symm)
noncomputable def f_X10_differ (I : rk_I) (a1 : Int32) (a2 : Int32) : Option (Int64) :=
(f_X10_isHand a2).bind fun x1 =>
if x1 = 0 then (
some (-4611686018427387904)) else (
(f_X10_areSales I a1).bind fun x2 =>
if x2 = 0 then (
some (-2)) else (
(f_X10_isRing I a1).bind fun x3 =>
if x3 = 0 then (
some (-3)) else (
rk_b2 (rk_while (fun a9 => f_X10_differ_l40 I a1 a2 a9.1 a9.2) (0, 0)) fun x4 x5 =>
some x4)))
theorem b_X10_differ {G : rk_G} {l : Launch} {d kc ks : Nat} {n : Nat} {S : rk_Sh} {I : rk_I} {J : rk_J} {R : rk_R} {Q : rk_Q} {a1 : Int32} {a2 : Int32} {r : Int64} (hd : 2 ≤ d) (hM : rk_LM S R) (hf : f_X10_differ I a1 a2 = some r) (hq : ∀ (v9 : Int64), r = v9 → Q (some (.long v9)) n S I J R) :
    AW G l yX10_differ cX10_differ 6 (some .long) d kc ks 0 [some (.ref 31), some (.int a1), some (.int a2), none, none, none] [] n S I J R Q := by
  unfold f_X10_differ at hf
  refine AW_iload_n2 dX10_differ_0 ?_
  replace hf := rk_bd hf
  obtain ⟨x1, e1, hf⟩ := hf
  refine AW_iS1iz (w_X10_isHand (d := 1) (Nat.le_refl _) e1) dX10_differ_1 kl_X10_125 (Nat.le_trans (by decide) hd) (by decide) (Nat.le_of_ble_eq_true rfl) (fun _ => ?_)
  refine AW_if_ne 11 dX10_differ_4 (by decide) (fun h1 => ?_) (fun h1 => ?_)
  · replace hf := rk_if hf h1
    refine AW_aload_n0 dX10_differ_11 ?_
    refine AW_iload_n1 dX10_differ_12 ?_
    replace hf := rk_bd hf
    obtain ⟨x2, e2, hf⟩ := hf
    refine AW_iV1iz (w_X10_areSales (d := 1) (Nat.le_refl _) hM e2) dX10_differ_13 kl_X10_323 (hM.1 31 (by decide) (by decide)) rfl (Nat.le_trans (by decide) hd) (by decide) (Nat.le_of_ble_eq_true rfl) (fun _ => ?_)
    refine AW_if_ne 23 dX10_differ_16 (by decide) (fun h2 => ?_) (fun h2 => ?_)
    · replace hf := rk_if hf h2
      refine AW_aload_n0 dX10_differ_23 ?_
      refine AW_iload_n1 dX10_differ_24 ?_
      replace hf := rk_bd hf
      obtain ⟨x3, e3, hf⟩ := hf
      refine AW_iV1iz (w_X10_isRing (d := 1) (Nat.le_refl _) hM e3) dX10_differ_25 kl_X10_326 (hM.1 31 (by decide) (by decide)) rfl (Nat.le_trans (by decide) hd) (by decide) (Nat.le_of_ble_eq_true rfl) (fun _ => ?_)
      refine AW_if_ne 35 dX10_differ_28 (by decide) (fun h3 => ?_) (fun h3 => ?_)
      · replace hf := rk_if hf h3
        refine AW_lconst (v := 0) dX10_differ_35 (by decide) ?_
        refine AW_lstore_n3 dX10_differ_36 (by decide) rfl ?_
        refine AW_iconst (v := 0) dX10_differ_37 (by decide) ?_
        refine AW_istore_5 dX10_differ_38 (by decide) rfl ?_
        refine AW_sb (rk_sbs (rk_sbs (rk_sbs (rk_sbs (rk_sbn (rk_sbs rk_sb0)))))) ?_
        replace hf := rk_bd2 hf
        obtain ⟨x4, x5, e4, hf⟩ := hf
        obtain ⟨m1, e4⟩ := rk_while_sp e4
        refine L_X10_differ_w40 (Nat.le_trans (by decide) hd) hM ?_ m1 _ _ e4
        intro x4 x5 h9
        cases h9
        refine AW_lload_n3 dX10_differ_117 ?_
        exact AW_lret dX10_differ_118 rfl (hq _ (Option.some.inj hf).symm)
      · replace hf := rk_it hf h3
        refine AW_ldc2 dX10_differ_31 kv_X10_331 ?_
        exact AW_lret dX10_differ_34 rfl (hq _ (Option.some.inj hf).symm)
    · replace hf := rk_it hf h2
      refine AW_ldc2 dX10_differ_19 kv_X10_329 ?_
      exact AW_lret dX10_differ_22 rfl (hq _ (Option.some.inj hf).symm)
  · replace hf := rk_it hf h1
    refine AW_ldc2 dX10_differ_7 kv_X10_168 ?_
    exact AW_lret dX10_differ_10 rfl (hq _ (Option.some.inj hf).symm)
theorem w_X10_differ {G : rk_G} {l : Launch} {d : Nat} {n : Nat} {S : rk_Sh} {I : rk_I} {J : rk_J} {R : rk_R} {a1 : Int32} {a2 : Int32} {v8 : Int64} (hd : 2 ≤ d) (hM : rk_LM S R) (hf : f_X10_differ I a1 a2 = some v8) :
    CW G l yX10_differ cX10_differ 6 (some .long) d 0 0 [.ref 31, .int a1, .int a2] n S I J R (rk_ql v8 n S I J R True) :=
  CW.of (by decide +kernel) (Nat.le_of_ble_eq_true rfl) (rk_sbs (rk_sbs (rk_sbs (rk_sbe (rk_sbe (rk_sbe rk_sb0)))))) (b_X10_differ hd hM hf (fun v9 h9 => by cases h9; exact ⟨rfl, rfl, rfl, rfl, rfl, rfl, trivial⟩))
noncomputable def f_J6_bitCount_0f7a4 (a0 : Int32) : Option (Int32) :=
some ((((((((a0 - ((rk_us a0 1) &&& 1431655765)) &&& 858993459) + ((rk_us (a0 - ((rk_us a0 1) &&& 1431655765)) 2) &&& 858993459)) + (rk_us (((a0 - ((rk_us a0 1) &&& 1431655765)) &&& 858993459) + ((rk_us (a0 - ((rk_us a0 1) &&& 1431655765)) 2) &&& 858993459)) 4)) &&& 252645135) + (rk_us (((((a0 - ((rk_us a0 1) &&& 1431655765)) &&& 858993459) + ((rk_us (a0 - ((rk_us a0 1) &&& 1431655765)) 2) &&& 858993459)) + (rk_us (((a0 - ((rk_us a0 1) &&& 1431655765)) &&& 858993459) + ((rk_us (a0 - ((rk_us a0 1) &&& 1431655765)) 2) &&& 858993459)) 4)) &&& 252645135) 8)) + (rk_us ((((((a0 - ((rk_us a0 1) &&& 1431655765)) &&& 858993459) + ((rk_us (a0 - ((rk_us a0 1) &&& 1431655765)) 2) &&& 858993459)) + (rk_us (((a0 - ((rk_us a0 1) &&& 1431655765)) &&& 858993459) + ((rk_us (a0 - ((rk_us a0 1) &&& 1431655765)) 2) &&& 858993459)) 4)) &&& 252645135) + (rk_us (((((a0 - ((rk_us a0 1) &&& 1431655765)) &&& 858993459) + ((rk_us (a0 - ((rk_us a0 1) &&& 1431655765)) 2) &&& 858993459)) + (rk_us (((a0 - ((rk_us a0 1) &&& 1431655765)) &&& 858993459) + ((rk_us (a0 - ((rk_us a0 1) &&& 1431655765)) 2) &&& 858993459)) 4)) &&& 252645135) 8)) 16)) &&& 63)
theorem b_J6_bitCount_0f7a4 {G : rk_G} {l : Launch} {d kc ks : Nat} {n : Nat} {S : rk_Sh} {I : rk_I} {J : rk_J} {R : rk_R} {Q : rk_Q} {a0 : Int32} {r : Int32} (hf : f_J6_bitCount_0f7a4 a0 = some r) (hq : ∀ (v9 : Int32), r = v9 → Q (some (.int v9)) n S I J R) :
    AW G l yJ6_bitCount_0f7a4 cJ6_bitCount_0f7a4 1 (some .int) d kc ks 0 [some (.int a0)] [] n S I J R Q := by
  unfold f_J6_bitCount_0f7a4 at hf
  refine AW_iload_n0 dJ6_bitCount_0f7a4_0 ?_
  refine AW_iload_n0 dJ6_bitCount_0f7a4_1 ?_
  refine AW_iconst (v := 1) dJ6_bitCount_0f7a4_2 (by decide) ?_
  refine AW_us dJ6_bitCount_0f7a4_3 ?_
  refine AW_ldcw dJ6_bitCount_0f7a4_4 kv_J6_265 ?_
  refine AW_iand dJ6_bitCount_0f7a4_7 ?_
  refine AW_isub dJ6_bitCount_0f7a4_8 ?_
  refine AW_istore_n0 dJ6_bitCount_0f7a4_9 (by decide) ?_
  refine AW_iload_n0 dJ6_bitCount_0f7a4_10 ?_
  refine AW_ldcw dJ6_bitCount_0f7a4_11 kv_J6_266 ?_
  refine AW_iand dJ6_bitCount_0f7a4_14 ?_
  refine AW_iload_n0 dJ6_bitCount_0f7a4_15 ?_
  refine AW_iconst (v := 2) dJ6_bitCount_0f7a4_16 (by decide) ?_
  refine AW_us dJ6_bitCount_0f7a4_17 ?_
  refine AW_ldcw dJ6_bitCount_0f7a4_18 kv_J6_266 ?_
  refine AW_iand dJ6_bitCount_0f7a4_21 ?_
  refine AW_iadd dJ6_bitCount_0f7a4_22 ?_
  refine AW_istore_n0 dJ6_bitCount_0f7a4_23 (by decide) ?_
  refine AW_iload_n0 dJ6_bitCount_0f7a4_24 ?_
  refine AW_iload_n0 dJ6_bitCount_0f7a4_25 ?_
  refine AW_iconst (v := 4) dJ6_bitCount_0f7a4_26 (by decide) ?_
  refine AW_us dJ6_bitCount_0f7a4_27 ?_
  refine AW_iadd dJ6_bitCount_0f7a4_28 ?_
  refine AW_ldcw dJ6_bitCount_0f7a4_29 kv_J6_267 ?_
  refine AW_iand dJ6_bitCount_0f7a4_32 ?_
  refine AW_istore_n0 dJ6_bitCount_0f7a4_33 (by decide) ?_
  refine AW_iload_n0 dJ6_bitCount_0f7a4_34 ?_
  refine AW_iload_n0 dJ6_bitCount_0f7a4_35 ?_
  refine AW_bipush (v := 8) dJ6_bitCount_0f7a4_36 (by decide) ?_
  refine AW_us dJ6_bitCount_0f7a4_38 ?_
  refine AW_iadd dJ6_bitCount_0f7a4_39 ?_
  refine AW_istore_n0 dJ6_bitCount_0f7a4_40 (by decide) ?_
  refine AW_iload_n0 dJ6_bitCount_0f7a4_41 ?_
  refine AW_iload_n0 dJ6_bitCount_0f7a4_42 ?_
  refine AW_bipush (v := 16) dJ6_bitCount_0f7a4_43 (by decide) ?_
  refine AW_us dJ6_bitCount_0f7a4_45 ?_
  refine AW_iadd dJ6_bitCount_0f7a4_46 ?_
  refine AW_istore_n0 dJ6_bitCount_0f7a4_47 (by decide) ?_
  refine AW_iload_n0 dJ6_bitCount_0f7a4_48 ?_
  refine AW_bipush (v := 63) dJ6_bitCount_0f7a4_49 (by decide) ?_
  refine AW_iand dJ6_bitCount_0f7a4_51 ?_
  exact AW_iret dJ6_bitCount_0f7a4_52 rfl (hq _ (Option.some.inj hf).symm)
theorem w_J6_bitCount_0f7a4 {G : rk_G} {l : Launch} {d : Nat} {n : Nat} {S : rk_Sh} {I : rk_I} {J : rk_J} {R : rk_R} {a0 : Int32} {v8 : Int32} (hf : f_J6_bitCount_0f7a4 a0 = some v8) :
    CW G l yJ6_bitCount_0f7a4 cJ6_bitCount_0f7a4 1 (some .int) d 0 0 [.int a0] n S I J R (rk_qi v8 n S I J R True) :=
  CW.of (by decide +kernel) (Nat.le_of_ble_eq_true rfl) (rk_sbs rk_sb0) (b_J6_bitCount_0f7a4 hf (fun v9 h9 => by cases h9; exact ⟨rfl, rfl, rfl, rfl, rfl, rfl, trivial⟩))
noncomputable def f_X4_follows (S : rk_Sh) (I : rk_I) (R : rk_R) (a1 : Int32) (a2 : Int32) (a3 : Int32) : Option (Int32) :=
(rk_ckR R 16 1 2).bind fun _ =>
(rk_rdR R 2 24 a2).bind fun q1 =>
(rk_dr S 5 11 q1).bind fun o1 =>
if (I o1 2) = a3 then (
(rk_ckR R 16 1 2).bind fun _ =>
(some (R o1 1)).bind fun q2 =>
(rk_ckR R 16 1 2).bind fun _ =>
(rk_rdR R 2 24 a1).bind fun q3 =>
(rk_dr S 5 11 q3).bind fun o2 =>
(some (R o2 1)).bind fun q4 =>
(rk_dr S 0 5 q4).bind fun o3 =>
(rk_dr S 0 5 q2).bind fun o4 =>
if o4 = o3 then (
(rk_ckR R 16 1 2).bind fun _ =>
(rk_ckR R 16 1 2).bind fun _ =>
if (I o1 4) = (I o2 4) then (
some 1) else (
some 0)) else (
some 0)) else (
some 0)
theorem b_X4_follows {G : rk_G} {l : Launch} {d kc ks : Nat} {n : Nat} {S : rk_Sh} {I : rk_I} {J : rk_J} {R : rk_R} {Q : rk_Q} {a1 : Int32} {a2 : Int32} {a3 : Int32} {r : Int32} (hL : rk_LC S R) (hf : f_X4_follows S I R a1 a2 a3 = some r) (hq : ∀ (v9 : Int32), r = v9 → Q (some (.int v9)) n S I J R) :
    AW G l yX4_follows cX4_follows 4 (some .boolean) d kc ks 0 [some (.ref 16), some (.int a1), some (.int a2), some (.int a3)] [] n S I J R Q := by
  unfold f_X4_follows at hf
  refine AW_aload_n0 dX4_follows_0 ?_
  replace hf := rk_bd hf
  obtain ⟨_, e1, hf⟩ := hf
  have e1 := rk_ckR_sp e1
  refine AW_getR dX4_follows_1 kf_X4_15 rfl (hL.1 16 (by decide)) (by decide) e1 ?_
  refine AW_iload_n2 dX4_follows_4 ?_
  replace hf := rk_bd hf
  obtain ⟨q1, e2, hf⟩ := hf
  refine AW_rdR dX4_follows_5 (hL.1 2 (by decide)) (by decide) e2 ?_
  replace hf := rk_bd hf
  obtain ⟨o1, e3, hf⟩ := hf
  obtain ⟨e3, hS1⟩ := rk_dr_sp e3
  subst e3
  refine AW_getI dX4_follows_6 kf_X4_52 rfl hS1 (by decide) ?_
  refine AW_iload_n3 dX4_follows_9 ?_
  refine AW_icmp_ne 59 dX4_follows_10 (by decide) (fun h1 => ?_) (fun h1 => ?_)
  · replace hf := rk_if hf h1
    refine AW_iconst (v := 0) dX4_follows_59 (by decide) ?_
    exact AW_zret dX4_follows_60 rfl rfl (hq _ (Option.some.inj hf).symm)
  · replace hf := rk_it hf h1
    refine AW_aload_n0 dX4_follows_13 ?_
    replace hf := rk_bd hf
    obtain ⟨_, e4, hf⟩ := hf
    have e4 := rk_ckR_sp e4
    refine AW_getR dX4_follows_14 kf_X4_15 rfl (hL.1 16 (by decide)) (by decide) e4 ?_
    refine AW_iload_n2 dX4_follows_17 ?_
    refine AW_rdR (q := (some o1)) dX4_follows_18 (hL.1 2 (by decide)) (by decide) e2 ?_
    replace hf := rk_bd hf
    obtain ⟨q2, e5, hf⟩ := hf
    refine AW_getQ dX4_follows_19 kf_X4_67 rfl hS1 (by decide) e5 ?_
    refine AW_aload_n0 dX4_follows_22 ?_
    replace hf := rk_bd hf
    obtain ⟨_, e6, hf⟩ := hf
    have e6 := rk_ckR_sp e6
    refine AW_getR dX4_follows_23 kf_X4_15 rfl (hL.1 16 (by decide)) (by decide) e6 ?_
    refine AW_iload_n1 dX4_follows_26 ?_
    replace hf := rk_bd hf
    obtain ⟨q3, e7, hf⟩ := hf
    refine AW_rdR dX4_follows_27 (hL.1 2 (by decide)) (by decide) e7 ?_
    replace hf := rk_bd hf
    obtain ⟨o2, e8, hf⟩ := hf
    obtain ⟨e8, hS2⟩ := rk_dr_sp e8
    subst e8
    replace hf := rk_bd hf
    obtain ⟨q4, e9, hf⟩ := hf
    refine AW_getQ dX4_follows_28 kf_X4_67 rfl hS2 (by decide) e9 ?_
    replace hf := rk_bd hf
    obtain ⟨o3, e10, hf⟩ := hf
    obtain ⟨e10, hS3⟩ := rk_dr_sp e10
    subst e10
    replace hf := rk_bd hf
    obtain ⟨o4, e11, hf⟩ := hf
    obtain ⟨e11, hS4⟩ := rk_dr_sp e11
    subst e11
    refine AW_acmS_ne 59 dX4_follows_31 (by decide) hS4 (by decide) hS3 (by decide) (fun h2 => ?_) (fun h2 => ?_)
    · replace hf := rk_if hf h2
      refine AW_iconst (v := 0) dX4_follows_59 (by decide) ?_
      exact AW_zret dX4_follows_60 rfl rfl (hq _ (Option.some.inj hf).symm)
    · replace hf := rk_it hf h2
      refine AW_aload_n0 dX4_follows_34 ?_
      replace hf := rk_bd hf
      obtain ⟨_, e12, hf⟩ := hf
      have e12 := rk_ckR_sp e12
      refine AW_getR dX4_follows_35 kf_X4_15 rfl (hL.1 16 (by decide)) (by decide) e12 ?_
      refine AW_iload_n2 dX4_follows_38 ?_
      refine AW_rdR (q := (some o1)) dX4_follows_39 (hL.1 2 (by decide)) (by decide) e2 ?_
      refine AW_getI dX4_follows_40 kf_X4_41 rfl hS1 (by decide) ?_
      refine AW_aload_n0 dX4_follows_43 ?_
      replace hf := rk_bd hf
      obtain ⟨_, e13, hf⟩ := hf
      have e13 := rk_ckR_sp e13
      refine AW_getR dX4_follows_44 kf_X4_15 rfl (hL.1 16 (by decide)) (by decide) e13 ?_
      refine AW_iload_n1 dX4_follows_47 ?_
      refine AW_rdR (q := (some o2)) dX4_follows_48 (hL.1 2 (by decide)) (by decide) e7 ?_
      refine AW_getI dX4_follows_49 kf_X4_41 rfl hS2 (by decide) ?_
      refine AW_icmp_ne 59 dX4_follows_52 (by decide) (fun h3 => ?_) (fun h3 => ?_)
      · replace hf := rk_if hf h3
        refine AW_iconst (v := 0) dX4_follows_59 (by decide) ?_
        exact AW_zret dX4_follows_60 rfl rfl (hq _ (Option.some.inj hf).symm)
      · replace hf := rk_it hf h3
        refine AW_iconst (v := 1) dX4_follows_55 (by decide) ?_
        refine AW_goto 60 dX4_follows_56 (by decide) ?_
        exact AW_zret dX4_follows_60 rfl rfl (hq _ (Option.some.inj hf).symm)
theorem w_X4_follows {G : rk_G} {l : Launch} {d : Nat} {n : Nat} {S : rk_Sh} {I : rk_I} {J : rk_J} {R : rk_R} {a1 : Int32} {a2 : Int32} {a3 : Int32} {v8 : Int32} (hL : rk_LC S R) (hf : f_X4_follows S I R a1 a2 a3 = some v8) :
    CW G l yX4_follows cX4_follows 4 (some .boolean) d 0 0 [.ref 16, .int a1, .int a2, .int a3] n S I J R (rk_qi v8 n S I J R True) :=
  CW.of (by decide +kernel) (Nat.le_of_ble_eq_true rfl) (rk_sbs (rk_sbs (rk_sbs (rk_sbs rk_sb0)))) (b_X4_follows hL hf (fun v9 h9 => by cases h9; exact ⟨rfl, rfl, rfl, rfl, rfl, rfl, trivial⟩))
noncomputable def f_X4_offer_j24 (I : rk_I) (j1 : Int32) (t0 : Int32) : Option (rk_I) :=
if t0 < 0 then (
(some (rk_ui I 16 3 j1)).bind fun I1 =>
some I1) else (
if t0 = 0 then (
if (I 16 3) ≤ j1 then (
some I) else (
(some (rk_ui I 16 3 j1)).bind fun I2 =>
some I2)) else (
some I))
theorem b_X4_offer_j24 {G : rk_G} {l : Launch} {d kc ks : Nat} {n : Nat} {S : rk_Sh} {I : rk_I} {J : rk_J} {R : rk_R} {Q : rk_Q} {j1 : Int32} {t0 : Int32} {r : rk_I} (hd : 1 ≤ d) (hL : rk_LC S R) (hf : f_X4_offer_j24 I j1 t0 = some r) (hq : ∀ (I9 : rk_I), r = I9 → Q (none) n S I9 J R) :
    AW G l yX4_offer cX4_offer 3 none d kc ks 24 [some (.ref 16), some (.int j1), none] [.int t0] n S I J R Q := by
  unfold f_X4_offer_j24 at hf
  refine AW_istore_n2 dX4_offer_24 (by decide) rfl ?_
  refine AW_iload_n2 dX4_offer_25 ?_
  refine AW_if_lt 41 dX4_offer_26 (by decide) (fun h1 => ?_) (fun h1 => ?_)
  · replace hf := rk_it hf h1
    refine AW_aload_n0 dX4_offer_41 ?_
    refine AW_iload_n1 dX4_offer_42 ?_
    replace hf := rk_bd hf
    obtain ⟨I1, e1, hf⟩ := hf
    refine AW_puI dX4_offer_43 kf_X4_64 rfl (hL.1 16 (by decide)) (by decide) e1 ?_
    exact AW_vret dX4_offer_46 rfl (hq _ (Option.some.inj hf).symm)
  · replace hf := rk_if hf h1
    refine AW_iload_n2 dX4_offer_29 ?_
    refine AW_if_ne 46 dX4_offer_30 (by decide) (fun h2 => ?_) (fun h2 => ?_)
    · replace hf := rk_if hf h2
      exact AW_vret dX4_offer_46 rfl (hq _ (Option.some.inj hf).symm)
    · replace hf := rk_it hf h2
      refine AW_iload_n1 dX4_offer_33 ?_
      refine AW_aload_n0 dX4_offer_34 ?_
      refine AW_getI dX4_offer_35 kf_X4_64 rfl (hL.1 16 (by decide)) (by decide) ?_
      refine AW_icmp_ge 46 dX4_offer_38 (by decide) (fun h3 => ?_) (fun h3 => ?_)
      · replace hf := rk_it hf h3
        exact AW_vret dX4_offer_46 rfl (hq _ (Option.some.inj hf).symm)
      · replace hf := rk_if hf h3
        refine AW_aload_n0 dX4_offer_41 ?_
        refine AW_iload_n1 dX4_offer_42 ?_
        replace hf := rk_bd hf
        obtain ⟨I2, e2, hf⟩ := hf
        refine AW_puI dX4_offer_43 kf_X4_64 rfl (hL.1 16 (by decide)) (by decide) e2 ?_
        exact AW_vret dX4_offer_46 rfl (hq _ (Option.some.inj hf).symm)
noncomputable def f_X4_offer (I : rk_I) (a1 : Int32) : Option (rk_I) :=
if (I 16 3) = (-1) then (
f_X4_offer_j24 I a1 (-1)) else (
(f_J6_bitCount_0f7a4 a1).bind fun x1 =>
(f_J6_bitCount_0f7a4 (I 16 3)).bind fun x2 =>
f_X4_offer_j24 I a1 (x1 - x2))
theorem b_X4_offer {G : rk_G} {l : Launch} {d kc ks : Nat} {n : Nat} {S : rk_Sh} {I : rk_I} {J : rk_J} {R : rk_R} {Q : rk_Q} {a1 : Int32} {r : rk_I} (hd : 1 ≤ d) (hL : rk_LC S R) (hf : f_X4_offer I a1 = some r) (hq : ∀ (I9 : rk_I), r = I9 → Q (none) n S I9 J R) :
    AW G l yX4_offer cX4_offer 3 none d kc ks 0 [some (.ref 16), some (.int a1), none] [] n S I J R Q := by
  unfold f_X4_offer at hf
  refine AW_aload_n0 dX4_offer_0 ?_
  refine AW_getI dX4_offer_1 kf_X4_64 rfl (hL.1 16 (by decide)) (by decide) ?_
  refine AW_iconst (v := (-1)) dX4_offer_4 (by decide) ?_
  refine AW_icmp_ne 12 dX4_offer_5 (by decide) (fun h1 => ?_) (fun h1 => ?_)
  · replace hf := rk_if hf h1
    refine AW_iload_n1 dX4_offer_12 ?_
    replace hf := rk_bd hf
    obtain ⟨x1, e1, hf⟩ := hf
    refine AW_iS1iz (w_J6_bitCount_0f7a4 (d := 0) e1) dX4_offer_13 kl_X4_75 (Nat.le_trans (by decide) hd) (by decide) (Nat.le_of_ble_eq_true rfl) (fun _ => ?_)
    refine AW_aload_n0 dX4_offer_16 ?_
    refine AW_getI dX4_offer_17 kf_X4_64 rfl (hL.1 16 (by decide)) (by decide) ?_
    replace hf := rk_bd hf
    obtain ⟨x2, e2, hf⟩ := hf
    refine AW_iS1iz (w_J6_bitCount_0f7a4 (d := 0) e2) dX4_offer_20 kl_X4_75 (Nat.le_trans (by decide) hd) (by decide) (Nat.le_of_ble_eq_true rfl) (fun _ => ?_)
    refine AW_isub dX4_offer_23 ?_
    refine AW_sb (rk_sbs (rk_sbs (rk_sbn rk_sb0))) ?_
    exact b_X4_offer_j24 (Nat.le_trans (by decide) hd) hL hf hq
  · replace hf := rk_it hf h1
    refine AW_iconst (v := (-1)) dX4_offer_8 (by decide) ?_
    refine AW_goto 24 dX4_offer_9 (by decide) ?_
    refine AW_sb (rk_sbs (rk_sbs (rk_sbn rk_sb0))) ?_
    exact b_X4_offer_j24 (Nat.le_trans (by decide) hd) hL hf hq
theorem w_X4_offer {G : rk_G} {l : Launch} {d : Nat} {n : Nat} {S : rk_Sh} {I : rk_I} {J : rk_J} {R : rk_R} {a1 : Int32} {I8 : rk_I} (hd : 1 ≤ d) (hL : rk_LC S R) (hf : f_X4_offer I a1 = some I8) :
    CW G l yX4_offer cX4_offer 3 none d 0 0 [.ref 16, .int a1] n S I J R (rk_qv n S I8 J R True) :=
  CW.of (by decide +kernel) (Nat.le_of_ble_eq_true rfl) (rk_sbs (rk_sbs (rk_sbe rk_sb0))) (b_X4_offer hd hL hf (fun I9 h9 => by cases h9; exact ⟨rfl, rfl, rfl, rfl, rfl, rfl, trivial⟩))
noncomputable def f_X4_walk_l15 (rec : Nat → Int32 → Int32 → Int32 → Int32 → rk_Sh → rk_I → rk_R → Option (rk_I)) (S : rk_Sh) (I : rk_I) (R : rk_R) (u1 : Int32) (u2 : Int32) (u3 : Int32) (u4 : Int32) (s5 : Int32) : Option ((Int32 × rk_I) ⊕ (Int32 × rk_I)) :=
if (I 16 2) ≤ s5 then (
some (.inr (s5, I))) else (
(f_X4_follows S I R u1 s5 u2).bind fun x1 =>
if x1 = 0 then (
some (.inl ((s5 + 1), I))) else (
(rk_ckR R 16 1 2).bind fun _ =>
(rk_rdR R 2 24 s5).bind fun q1 =>
(rk_dr S 5 11 q1).bind fun o1 =>
(rk_ckR R 16 1 2).bind fun _ =>
(rk_rdR R 2 24 u1).bind fun q2 =>
(rk_dr S 5 11 q2).bind fun o2 =>
if (I o1 3) = (I o2 2) then (
(f_X4_offer I (u3 ||| (1 <<< (s5 &&& 31)))).bind fun I2 =>
some (.inl ((s5 + 1), I2))) else (
(f_X4_has u4 (I o1 3)).bind fun x2 =>
if x2 = 0 then (
(rec 0 u1 (I o1 3) (u3 ||| (1 <<< (s5 &&& 31))) (u4 ||| (1 <<< ((I o1 3) &&& 31))) S I R).bind fun I1 =>
some (.inl ((s5 + 1), I1))) else (
some (.inl ((s5 + 1), I))))))
theorem b_X4_walk_l15 {G : rk_G} {l : Launch} {d kc ks : Nat} {n : Nat} {S : rk_Sh} {I : rk_I} {J : rk_J} {R : rk_R} {Q : rk_Q} {u1 : Int32} {u2 : Int32} {u3 : Int32} {u4 : Int32} {s5 : Int32} {r : (Int32 × rk_I) ⊕ (Int32 × rk_I)} {d0 : Nat} {rec : Nat → Int32 → Int32 → Int32 → Int32 → rk_Sh → rk_I → rk_R → Option (rk_I)} (hd0 : d0 + 1 ≤ d) (hr0 : ∀ (n : Nat) (S : rk_Sh) (I : rk_I) (J : rk_J) (R : rk_R) (x0 : Int32) (x1 : Int32) (x2 : Int32) (x3 : Int32) (I9 : rk_I), rk_LC S R → rec 0 x0 x1 x2 x3 S I R = some I9 → CW G l yX4_walk cX4_walk 7 none d0 0 0 [.ref 16, .int x0, .int x1, .int x2, .int x3] n S I J R (rk_qv n S I9 J R True)) (hd : 2 ≤ d) (hL : rk_LC S R) (hf : f_X4_walk_l15 rec S I R u1 u2 u3 u4 s5 = some r) (hc : ∀ (w0 : Int32) (I9 : rk_I), r = .inl (w0, I9) → AW G l yX4_walk cX4_walk 7 none d kc ks 15 [some (.ref 16), some (.int u1), some (.int u2), some (.int u3), some (.int u4), some (.int w0), none] [] n S I9 J R Q) (he : ∀ (w0 : Int32) (I9 : rk_I), r = .inr (w0, I9) → AW G l yX4_walk cX4_walk 7 none d kc ks 114 [some (.ref 16), some (.int u1), some (.int u2), some (.int u3), some (.int u4), some (.int w0), none] [] n S I9 J R Q) :
    AW G l yX4_walk cX4_walk 7 none d kc ks 15 [some (.ref 16), some (.int u1), some (.int u2), some (.int u3), some (.int u4), some (.int s5), none] [] n S I J R Q := by
  unfold f_X4_walk_l15 at hf
  refine AW_iload_5 dX4_walk_15 ?_
  refine AW_aload_n0 dX4_walk_17 ?_
  refine AW_getI dX4_walk_18 kf_X4_19 rfl (hL.1 16 (by decide)) (by decide) ?_
  refine AW_icmp_ge 114 dX4_walk_21 (by decide) (fun h1 => ?_) (fun h1 => ?_)
  · replace hf := rk_it hf h1
    refine AW_sb (rk_sbs (rk_sbs (rk_sbs (rk_sbs (rk_sbs (rk_sbs (rk_sbn rk_sb0))))))) ?_
    exact he _ _ (Option.some.inj hf).symm
  · replace hf := rk_if hf h1
    refine AW_aload_n0 dX4_walk_24 ?_
    refine AW_iload_n1 dX4_walk_25 ?_
    refine AW_iload_5 dX4_walk_26 ?_
    refine AW_iload_n2 dX4_walk_28 ?_
    replace hf := rk_bd hf
    obtain ⟨x1, e1, hf⟩ := hf
    refine AW_iV3iz (w_X4_follows (d := 0) hL e1) dX4_walk_29 kl_X4_80 (hL.1 16 (by decide)) rfl (Nat.le_trans (by decide) hd) (by decide) (Nat.le_of_ble_eq_true rfl) (fun _ => ?_)
    refine AW_if_ne 38 dX4_walk_32 (by decide) (fun h2 => ?_) (fun h2 => ?_)
    · replace hf := rk_if hf h2
      refine AW_aload_n0 dX4_walk_38 ?_
      replace hf := rk_bd hf
      obtain ⟨_, e2, hf⟩ := hf
      have e2 := rk_ckR_sp e2
      refine AW_getR dX4_walk_39 kf_X4_15 rfl (hL.1 16 (by decide)) (by decide) e2 ?_
      refine AW_iload_5 dX4_walk_42 ?_
      replace hf := rk_bd hf
      obtain ⟨q1, e3, hf⟩ := hf
      refine AW_rdR dX4_walk_44 (hL.1 2 (by decide)) (by decide) e3 ?_
      replace hf := rk_bd hf
      obtain ⟨o1, e4, hf⟩ := hf
      obtain ⟨e4, hS1⟩ := rk_dr_sp e4
      subst e4
      refine AW_getI dX4_walk_45 kf_X4_55 rfl hS1 (by decide) ?_
      refine AW_istore_6 dX4_walk_48 (by decide) rfl ?_
      refine AW_iload_6 dX4_walk_50 ?_
      refine AW_aload_n0 dX4_walk_52 ?_
      replace hf := rk_bd hf
      obtain ⟨_, e5, hf⟩ := hf
      have e5 := rk_ckR_sp e5
      refine AW_getR dX4_walk_53 kf_X4_15 rfl (hL.1 16 (by decide)) (by decide) e5 ?_
      refine AW_iload_n1 dX4_walk_56 ?_
      replace hf := rk_bd hf
      obtain ⟨q2, e6, hf⟩ := hf
      refine AW_rdR dX4_walk_57 (hL.1 2 (by decide)) (by decide) e6 ?_
      replace hf := rk_bd hf
      obtain ⟨o2, e7, hf⟩ := hf
      obtain ⟨e7, hS2⟩ := rk_dr_sp e7
      subst e7
      refine AW_getI dX4_walk_58 kf_X4_52 rfl hS2 (by decide) ?_
      refine AW_icmp_ne 77 dX4_walk_61 (by decide) (fun h3 => ?_) (fun h3 => ?_)
      · replace hf := rk_if hf h3
        refine AW_aload_n0 dX4_walk_77 ?_
        refine AW_iload_4 dX4_walk_78 ?_
        refine AW_iload_6 dX4_walk_80 ?_
        replace hf := rk_bd hf
        obtain ⟨x2, e8, hf⟩ := hf
        refine AW_iV2iz (w_X4_has (d := 0) e8) dX4_walk_82 kl_X4_37 (hL.1 16 (by decide)) rfl (Nat.le_trans (by decide) hd) (by decide) (Nat.le_of_ble_eq_true rfl) (fun _ => ?_)
        refine AW_if_ne 108 dX4_walk_85 (by decide) (fun h4 => ?_) (fun h4 => ?_)
        · replace hf := rk_if hf h4
          refine AW_iinc_5 (v := 1) dX4_walk_108 (by decide) (by decide) rfl ?_
          refine AW_goto 15 dX4_walk_111 (by decide) ?_
          refine AW_sb (rk_sbs (rk_sbs (rk_sbs (rk_sbs (rk_sbs (rk_sbs (rk_sbn rk_sb0))))))) ?_
          exact hc _ _ (Option.some.inj hf).symm
        · replace hf := rk_it hf h4
          refine AW_aload_n0 dX4_walk_88 ?_
          refine AW_iload_n1 dX4_walk_89 ?_
          refine AW_iload_6 dX4_walk_90 ?_
          refine AW_iload_n3 dX4_walk_92 ?_
          refine AW_iconst (v := 1) dX4_walk_93 (by decide) ?_
          refine AW_iload_5 dX4_walk_94 ?_
          refine AW_ishl dX4_walk_96 ?_
          refine AW_ior dX4_walk_97 ?_
          refine AW_iload_4 dX4_walk_98 ?_
          refine AW_iconst (v := 1) dX4_walk_100 (by decide) ?_
          refine AW_iload_6 dX4_walk_101 ?_
          refine AW_ishl dX4_walk_103 ?_
          refine AW_ior dX4_walk_104 ?_
          replace hf := rk_bd hf
          obtain ⟨I1, e9, hf⟩ := hf
          refine AW_iV4vz (hr0 _ _ _ _ _ _ _ _ _ _ hL e9) dX4_walk_105 kl_X4_71 (hL.1 16 (by decide)) rfl hd0 (by decide) (Nat.le_of_ble_eq_true rfl) (fun _ => ?_)
          refine AW_iinc_5 (v := 1) dX4_walk_108 (by decide) (by decide) rfl ?_
          refine AW_goto 15 dX4_walk_111 (by decide) ?_
          refine AW_sb (rk_sbs (rk_sbs (rk_sbs (rk_sbs (rk_sbs (rk_sbs (rk_sbn rk_sb0))))))) ?_
          exact hc _ _ (Option.some.inj hf).symm
      · replace hf := rk_it hf h3
        refine AW_aload_n0 dX4_walk_64 ?_
        refine AW_iload_n3 dX4_walk_65 ?_
        refine AW_iconst (v := 1) dX4_walk_66 (by decide) ?_
        refine AW_iload_5 dX4_walk_67 ?_
        refine AW_ishl dX4_walk_69 ?_
        refine AW_ior dX4_walk_70 ?_
        replace hf := rk_bd hf
        obtain ⟨I2, e10, hf⟩ := hf
        refine AW_iV1vz (w_X4_offer (d := 1) (Nat.le_refl _) hL e10) dX4_walk_71 kl_X4_84 (hL.1 16 (by decide)) rfl (Nat.le_trans (by decide) hd) (by decide) (Nat.le_of_ble_eq_true rfl) (fun _ => ?_)
        refine AW_goto 108 dX4_walk_74 (by decide) ?_
        refine AW_iinc_5 (v := 1) dX4_walk_108 (by decide) (by decide) rfl ?_
        refine AW_goto 15 dX4_walk_111 (by decide) ?_
        refine AW_sb (rk_sbs (rk_sbs (rk_sbs (rk_sbs (rk_sbs (rk_sbs (rk_sbn rk_sb0))))))) ?_
        exact hc _ _ (Option.some.inj hf).symm
    · replace hf := rk_it hf h2
      refine AW_goto 108 dX4_walk_35 (by decide) ?_
      refine AW_iinc_5 (v := 1) dX4_walk_108 (by decide) (by decide) rfl ?_
      refine AW_goto 15 dX4_walk_111 (by decide) ?_
      refine AW_sb (rk_sbs (rk_sbs (rk_sbs (rk_sbs (rk_sbs (rk_sbs (rk_sbn rk_sb0))))))) ?_
      exact hc _ _ (Option.some.inj hf).symm
theorem L_X4_walk_w15 {G : rk_G} {l : Launch} {d kc ks : Nat} {n : Nat} {S : rk_Sh} {J : rk_J} {R : rk_R} {Q : rk_Q} {u1 : Int32} {u2 : Int32} {u3 : Int32} {u4 : Int32} {r : Int32 × rk_I} {d0 : Nat} {rec : Nat → Int32 → Int32 → Int32 → Int32 → rk_Sh → rk_I → rk_R → Option (rk_I)} (hd0 : d0 + 1 ≤ d) (hr0 : ∀ (n : Nat) (S : rk_Sh) (I : rk_I) (J : rk_J) (R : rk_R) (x0 : Int32) (x1 : Int32) (x2 : Int32) (x3 : Int32) (I9 : rk_I), rk_LC S R → rec 0 x0 x1 x2 x3 S I R = some I9 → CW G l yX4_walk cX4_walk 7 none d0 0 0 [.ref 16, .int x0, .int x1, .int x2, .int x3] n S I J R (rk_qv n S I9 J R True)) (hd : 2 ≤ d) (hL : rk_LC S R) (he : ∀ (w0 : Int32) (I9 : rk_I), r = (w0, I9) → AW G l yX4_walk cX4_walk 7 none d kc ks 114 [some (.ref 16), some (.int u1), some (.int u2), some (.int u3), some (.int u4), some (.int w0), none] [] n S I9 J R Q) :
    ∀ (m9 : Nat) (s5 : Int32) (I : rk_I), rk_loop (fun a9 => f_X4_walk_l15 rec S a9.2 R u1 u2 u3 u4 a9.1) m9 (s5, I) = some r → AW G l yX4_walk cX4_walk 7 none d kc ks 15 [some (.ref 16), some (.int u1), some (.int u2), some (.int u3), some (.int u4), some (.int s5), none] [] n S I J R Q := by
  intro m9
  induction m9 with
  | zero => intro s5 I hf; cases hf
  | succ m9 ih =>
    intro s5 I hf 
    obtain ⟨r9, hf, hr⟩ := rk_loop_s hf
    exact b_X4_walk_l15 hd0 hr0 hd hL hf (fun _ _ h9 => by subst h9; exact ih _ _ hr) (fun _ _ h9 => by subst h9; exact he _ _ hr.symm)
noncomputable def f_X4_walk (rec : Nat → Int32 → Int32 → Int32 → Int32 → rk_Sh → rk_I → rk_R → Option (rk_I)) (S : rk_Sh) (I : rk_I) (R : rk_R) (a1 : Int32) (a2 : Int32) (a3 : Int32) (a4 : Int32) : Option (rk_I) :=
(f_J6_bitCount_0f7a4 a3).bind fun x1 =>
if x1 < 10 then (
rk_b2 (rk_while (fun a9 => f_X4_walk_l15 rec S a9.2 R a1 a2 a3 a4 a9.1) ((a1 + 1), I)) fun x2 I1 =>
some I1) else (
some I)
theorem b_X4_walk {G : rk_G} {l : Launch} {d kc ks : Nat} {n : Nat} {S : rk_Sh} {I : rk_I} {J : rk_J} {R : rk_R} {Q : rk_Q} {a1 : Int32} {a2 : Int32} {a3 : Int32} {a4 : Int32} {r : rk_I} {d0 : Nat} {rec : Nat → Int32 → Int32 → Int32 → Int32 → rk_Sh → rk_I → rk_R → Option (rk_I)} (hd0 : d0 + 1 ≤ d) (hr0 : ∀ (n : Nat) (S : rk_Sh) (I : rk_I) (J : rk_J) (R : rk_R) (x0 : Int32) (x1 : Int32) (x2 : Int32) (x3 : Int32) (I9 : rk_I), rk_LC S R → rec 0 x0 x1 x2 x3 S I R = some I9 → CW G l yX4_walk cX4_walk 7 none d0 0 0 [.ref 16, .int x0, .int x1, .int x2, .int x3] n S I J R (rk_qv n S I9 J R True)) (hd : 2 ≤ d) (hL : rk_LC S R) (hf : f_X4_walk rec S I R a1 a2 a3 a4 = some r) (hq : ∀ (I9 : rk_I), r = I9 → Q (none) n S I9 J R) :
    AW G l yX4_walk cX4_walk 7 none d kc ks 0 [some (.ref 16), some (.int a1), some (.int a2), some (.int a3), some (.int a4), none, none] [] n S I J R Q := by
  unfold f_X4_walk at hf
  refine AW_iload_n3 dX4_walk_0 ?_
  replace hf := rk_bd hf
  obtain ⟨x1, e1, hf⟩ := hf
  refine AW_iS1iz (w_J6_bitCount_0f7a4 (d := 0) e1) dX4_walk_1 kl_X4_75 (Nat.le_trans (by decide) hd) (by decide) (Nat.le_of_ble_eq_true rfl) (fun _ => ?_)
  refine AW_bipush (v := 10) dX4_walk_4 (by decide) ?_
  refine AW_icmp_lt 10 dX4_walk_6 (by decide) (fun h1 => ?_) (fun h1 => ?_)
  · replace hf := rk_it hf h1
    refine AW_iload_n1 dX4_walk_10 ?_
    refine AW_iconst (v := 1) dX4_walk_11 (by decide) ?_
    refine AW_iadd dX4_walk_12 ?_
    refine AW_istore_5 dX4_walk_13 (by decide) rfl ?_
    refine AW_sb (rk_sbs (rk_sbs (rk_sbs (rk_sbs (rk_sbs (rk_sbs (rk_sbn rk_sb0))))))) ?_
    replace hf := rk_bd2 hf
    obtain ⟨x2, I1, e2, hf⟩ := hf
    obtain ⟨m1, e2⟩ := rk_while_sp e2
    refine L_X4_walk_w15 hd0 hr0 (Nat.le_trans (by decide) hd) hL ?_ m1 _ _ e2
    intro x2 I1 h9
    cases h9
    exact AW_vret dX4_walk_114 rfl (hq _ (Option.some.inj hf).symm)
  · replace hf := rk_if hf h1
    exact AW_vret dX4_walk_9 rfl (hq _ (Option.some.inj hf).symm)
theorem w_X4_walk {G : rk_G} {l : Launch} {d : Nat} {n : Nat} {S : rk_Sh} {I : rk_I} {J : rk_J} {R : rk_R} {a1 : Int32} {a2 : Int32} {a3 : Int32} {a4 : Int32} {I8 : rk_I} {d0 : Nat} {rec : Nat → Int32 → Int32 → Int32 → Int32 → rk_Sh → rk_I → rk_R → Option (rk_I)} (hd0 : d0 + 1 ≤ d) (hr0 : ∀ (n : Nat) (S : rk_Sh) (I : rk_I) (J : rk_J) (R : rk_R) (x0 : Int32) (x1 : Int32) (x2 : Int32) (x3 : Int32) (I9 : rk_I), rk_LC S R → rec 0 x0 x1 x2 x3 S I R = some I9 → CW G l yX4_walk cX4_walk 7 none d0 0 0 [.ref 16, .int x0, .int x1, .int x2, .int x3] n S I J R (rk_qv n S I9 J R True)) (hd : 2 ≤ d) (hL : rk_LC S R) (hf : f_X4_walk rec S I R a1 a2 a3 a4 = some I8) :
    CW G l yX4_walk cX4_walk 7 none d 0 0 [.ref 16, .int a1, .int a2, .int a3, .int a4] n S I J R (rk_qv n S I8 J R True) :=
  CW.of (by decide +kernel) (Nat.le_of_ble_eq_true rfl) (rk_sbs (rk_sbs (rk_sbs (rk_sbs (rk_sbs (rk_sbe (rk_sbe rk_sb0))))))) (b_X4_walk hd0 hr0 hd hL hf (fun I9 h9 => by cases h9; exact ⟨rfl, rfl, rfl, rfl, rfl, rfl, trivial⟩))
