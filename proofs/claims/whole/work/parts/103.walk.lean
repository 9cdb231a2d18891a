noncomputable def f_X10_isWord (I : rk_I) (J : rk_J) (a1 : Int64) : Option (Int32) :=
if (I 31 30) = 0 then (
if (I 31 25) = 1 then (
if (lg_cmp (J 31 27) a1) = 0 then (
some 1) else (
some 0)) else (
some 0)) else (
some 0)
theorem b_X10_isWord {G : rk_G} {l : Launch} {d kc ks : Nat} {n : Nat} {S : rk_Sh} {I : rk_I} {J : rk_J} {R : rk_R} {Q : rk_Q} {a1 : Int64} {r : Int32} (hM : rk_LM S R) (hf : f_X10_isWord I J a1 = some r) (hq : ∀ (v9 : Int32), r = v9 → Q (some (.int v9)) n S I J R) :
    AW G l yX10_isWord cX10_isWord 3 (some .boolean) d kc ks 0 [some (.ref 31), some (.long a1), none] [] n S I J R Q := by
  unfold f_X10_isWord at hf
  refine AW_aload_n0 dX10_isWord_0 ?_
  refine AW_getI dX10_isWord_1 kf_X10_216 rfl (hM.1 31 (by decide) (by decide)) (by decide) ?_
  refine AW_if_ne 28 dX10_isWord_4 (by decide) (fun h1 => ?_) (fun h1 => ?_)
  · replace hf := rk_if hf h1
    refine AW_iconst (v := 0) dX10_isWord_28 (by decide) ?_
    exact AW_zret dX10_isWord_29 rfl rfl (hq _ (Option.some.inj hf).symm)
  · replace hf := rk_it hf h1
    refine AW_aload_n0 dX10_isWord_7 ?_
    refine AW_getI dX10_isWord_8 kf_X10_195 rfl (hM.1 31 (by decide) (by decide)) (by decide) ?_
    refine AW_iconst (v := 1) dX10_isWord_11 (by decide) ?_
    refine AW_icmp_ne 28 dX10_isWord_12 (by decide) (fun h2 => ?_) (fun h2 => ?_)
    · replace hf := rk_if hf h2
      refine AW_iconst (v := 0) dX10_isWord_28 (by decide) ?_
      exact AW_zret dX10_isWord_29 rfl rfl (hq _ (Option.some.inj hf).symm)
    · replace hf := rk_it hf h2
      refine AW_aload_n0 dX10_isWord_15 ?_
      refine AW_getJ dX10_isWord_16 kf_X10_202 rfl (hM.1 31 (by decide) (by decide)) (by decide) ?_
      refine AW_lload_n1 dX10_isWord_19 ?_
      refine AW_lcmp dX10_isWord_20 ?_
      refine AW_if_ne 28 dX10_isWord_21 (by decide) (fun h3 => ?_) (fun h3 => ?_)
      · replace hf := rk_if hf h3
        refine AW_iconst (v := 0) dX10_isWord_28 (by decide) ?_
        exact AW_zret dX10_isWord_29 rfl rfl (hq _ (Option.some.inj hf).symm)
      · replace hf := rk_it hf h3
        refine AW_iconst (v := 1) dX10_isWord_24 (by decide) ?_
        refine AW_goto 29 dX10_isWord_25 (by decide) ?_
        exact AW_zret dX10_isWord_29 rfl rfl (hq _ (Option.some.inj hf).symm)
theorem w_X10_isWord {G : rk_G} {l : Launch} {d : Nat} {n : Nat} {S : rk_Sh} {I : rk_I} {J : rk_J} {R : rk_R} {a1 : Int64} {v8 : Int32} (hM : rk_LM S R) (hf : f_X10_isWord I J a1 = some v8) :
    CW G l yX10_isWord cX10_isWord 3 (some .boolean) d 0 0 [.ref 31, .long a1] n S I J R (rk_qi v8 n S I J R True) :=
  CW.of (by decide +kernel) (Nat.le_of_ble_eq_true rfl) (rk_sbs (rk_sbs (rk_sbs rk_sb0))) (b_X10_isWord hM hf (fun v9 h9 => by cases h9; exact ⟨rfl, rfl, rfl, rfl, rfl, rfl, trivial⟩))
noncomputable def f_X10_isSign (I : rk_I) (J : rk_J) (a1 : Int32) : Option (Int32) :=
if (I 31 30) = 0 then (
if (I 31 25) = 3 then (
if (lg_cmp (J 31 27) a1.toInt64) = 0 then (
some 1) else (
some 0)) else (
some 0)) else (
some 0)
theorem b_X10_isSign {G : rk_G} {l : Launch} {d kc ks : Nat} {n : Nat} {S : rk_Sh} {I : rk_I} {J : rk_J} {R : rk_R} {Q : rk_Q} {a1 : Int32} {r : Int32} (hM : rk_LM S R) (hf : f_X10_isSign I J a1 = some r) (hq : ∀ (v9 : Int32), r = v9 → Q (some (.int v9)) n S I J R) :
    AW G l yX10_isSign cX10_isSign 2 (some .boolean) d kc ks 0 [some (.ref 31), some (.int a1)] [] n S I J R Q := by
  unfold f_X10_isSign at hf
  refine AW_aload_n0 dX10_isSign_0 ?_
  refine AW_getI dX10_isSign_1 kf_X10_216 rfl (hM.1 31 (by decide) (by decide)) (by decide) ?_
  refine AW_if_ne 29 dX10_isSign_4 (by decide) (fun h1 => ?_) (fun h1 => ?_)
  · replace hf := rk_if hf h1
    refine AW_iconst (v := 0) dX10_isSign_29 (by decide) ?_
    exact AW_zret dX10_isSign_30 rfl rfl (hq _ (Option.some.inj hf).symm)
  · replace hf := rk_it hf h1
    refine AW_aload_n0 dX10_isSign_7 ?_
    refine AW_getI dX10_isSign_8 kf_X10_195 rfl (hM.1 31 (by decide) (by decide)) (by decide) ?_
    refine AW_iconst (v := 3) dX10_isSign_11 (by decide) ?_
    refine AW_icmp_ne 29 dX10_isSign_12 (by decide) (fun h2 => ?_) (fun h2 => ?_)
    · replace hf := rk_if hf h2
      refine AW_iconst (v := 0) dX10_isSign_29 (by decide) ?_
      exact AW_zret dX10_isSign_30 rfl rfl (hq _ (Option.some.inj hf).symm)
    · replace hf := rk_it hf h2
      refine AW_aload_n0 dX10_isSign_15 ?_
      refine AW_getJ dX10_isSign_16 kf_X10_202 rfl (hM.1 31 (by decide) (by decide)) (by decide) ?_
      refine AW_iload_n1 dX10_isSign_19 ?_
      refine AW_i2l dX10_isSign_20 ?_
      refine AW_lcmp dX10_isSign_21 ?_
      refine AW_if_ne 29 dX10_isSign_22 (by decide) (fun h3 => ?_) (fun h3 => ?_)
      · replace hf := rk_if hf h3
        refine AW_iconst (v := 0) dX10_isSign_29 (by decide) ?_
        exact AW_zret dX10_isSign_30 rfl rfl (hq _ (Option.some.inj hf).symm)
      · replace hf := rk_it hf h3
        refine AW_iconst (v := 1) dX10_isSign_25 (by decide) ?_
        refine AW_goto 30 dX10_isSign_26 (by decide) ?_
        exact AW_zret dX10_isSign_30 rfl rfl (hq _ (Option.some.inj hf).symm)
theorem w_X10_isSign {G : rk_G} {l : Launch} {d : Nat} {n : Nat} {S : rk_Sh} {I : rk_I} {J : rk_J} {R : rk_R} {a1 : Int32} {v8 : Int32} (hM : rk_LM S R) (hf : f_X10_isSign I J a1 = some v8) :
    CW G l yX10_isSign cX10_isSign 2 (some .boolean) d 0 0 [.ref 31, .int a1] n S I J R (rk_qi v8 n S I J R True) :=
  CW.of (by decide +kernel) (Nat.le_of_ble_eq_true rfl) (rk_sbs (rk_sbs rk_sb0)) (b_X10_isSign hM hf (fun v9 h9 => by cases h9; exact ⟨rfl, rfl, rfl, rfl, rfl, rfl, trivial⟩))
noncomputable def f_X10_fail (I : rk_I)  : Option (rk_I) :=
if (I 31 30) = 0 then (
(some (rk_ui I 31 30 1)).bind fun I1 =>
(some (rk_ui I1 31 31 (I1 31 26))).bind fun I2 =>
some I2) else (
some I)
theorem b_X10_fail {G : rk_G} {l : Launch} {d kc ks : Nat} {n : Nat} {S : rk_Sh} {I : rk_I} {J : rk_J} {R : rk_R} {Q : rk_Q}  {r : rk_I} (hM : rk_LM S R) (hf : f_X10_fail I = some r) (hq : ∀ (I9 : rk_I), r = I9 → Q (none) n S I9 J R) :
    AW G l yX10_fail cX10_fail 1 none d kc ks 0 [some (.ref 31)] [] n S I J R Q := by
  unfold f_X10_fail at hf
  refine AW_aload_n0 dX10_fail_0 ?_
  refine AW_getI dX10_fail_1 kf_X10_216 rfl (hM.1 31 (by decide) (by decide)) (by decide) ?_
  refine AW_if_ne 20 dX10_fail_4 (by decide) (fun h1 => ?_) (fun h1 => ?_)
  · replace hf := rk_if hf h1
    exact AW_vret dX10_fail_20 rfl (hq _ (Option.some.inj hf).symm)
  · replace hf := rk_it hf h1
    refine AW_aload_n0 dX10_fail_7 ?_
    refine AW_iconst (v := 1) dX10_fail_8 (by decide) ?_
    replace hf := rk_bd hf
    obtain ⟨I1, e1, hf⟩ := hf
    refine AW_puZ dX10_fail_9 kf_X10_216 rfl (hM.1 31 (by decide) (by decide)) (by decide) (Or.inr rfl) e1 ?_
    refine AW_aload_n0 dX10_fail_12 ?_
    refine AW_aload_n0 dX10_fail_13 ?_
    refine AW_getI dX10_fail_14 kf_X10_192 rfl (hM.1 31 (by decide) (by decide)) (by decide) ?_
    replace hf := rk_bd hf
    obtain ⟨I2, e2, hf⟩ := hf
    refine AW_puI dX10_fail_17 kf_X10_220 rfl (hM.1 31 (by decide) (by decide)) (by decide) e2 ?_
    exact AW_vret dX10_fail_20 rfl (hq _ (Option.some.inj hf).symm)
theorem w_X10_fail {G : rk_G} {l : Launch} {d : Nat} {n : Nat} {S : rk_Sh} {I : rk_I} {J : rk_J} {R : rk_R}  {I8 : rk_I} (hM : rk_LM S R) (hf : f_X10_fail I = some I8) :
    CW G l yX10_fail cX10_fail 1 none d 0 0 [.ref 31] n S I J R (rk_qv n S I8 J R True) :=
  CW.of (by decide +kernel) (Nat.le_of_ble_eq_true rfl) (rk_sbs rk_sb0) (b_X10_fail hM hf (fun I9 h9 => by cases h9; exact ⟨rfl, rfl, rfl, rfl, rfl, rfl, trivial⟩))
noncomputable def f_X10_opens (I : rk_I) (J : rk_J)  : Option (Int32 × rk_I × rk_J) :=
if (I 31 29) = 5 then (
(f_X10_fail I).bind fun I3 =>
some (0, I3, J)) else (
(some (rk_ui I 31 29 ((I 31 29) + 1))).bind fun I1 =>
rk_b2 (f_X10_next I1 J) fun I2 J1 =>
some (1, I2, J1))
theorem b_X10_opens {G : rk_G} {l : Launch} {d kc ks : Nat} {n : Nat} {S : rk_Sh} {I : rk_I} {J : rk_J} {R : rk_R} {Q : rk_Q}  {r : Int32 × rk_I × rk_J} (hd : 2 ≤ d) (hM : rk_LM S R) (hf : f_X10_opens I J = some r) (hq : ∀ (v9 : Int32) (I9 : rk_I) (J9 : rk_J), r = (v9, I9, J9) → Q (some (.int v9)) n S I9 J9 R) :
    AW G l yX10_opens cX10_opens 1 (some .boolean) d kc ks 0 [some (.ref 31)] [] n S I J R Q := by
  unfold f_X10_opens at hf
  refine AW_aload_n0 dX10_opens_0 ?_
  refine AW_getI dX10_opens_1 kf_X10_223 rfl (hM.1 31 (by decide) (by decide)) (by decide) ?_
  refine AW_iconst (v := 5) dX10_opens_4 (by decide) ?_
  refine AW_icmp_ne 14 dX10_opens_5 (by decide) (fun h1 => ?_) (fun h1 => ?_)
  · replace hf := rk_if hf h1
    refine AW_aload_n0 dX10_opens_14 ?_
    refine AW_dup dX10_opens_15 rfl ?_
    refine AW_getI dX10_opens_16 kf_X10_223 rfl (hM.1 31 (by decide) (by decide)) (by decide) ?_
    refine AW_iconst (v := 1) dX10_opens_19 (by decide) ?_
    refine AW_iadd dX10_opens_20 ?_
    replace hf := rk_bd hf
    obtain ⟨I1, e1, hf⟩ := hf
    refine AW_puI dX10_opens_21 kf_X10_223 rfl (hM.1 31 (by decide) (by decide)) (by decide) e1 ?_
    refine AW_aload_n0 dX10_opens_24 ?_
    replace hf := rk_bd2 hf
    obtain ⟨I2, J1, e2, hf⟩ := hf
    refine AW_iV0vz (w_X10_next (d := 1) (Nat.le_refl _) hM e2) dX10_opens_25 kl_X10_229 (hM.1 31 (by decide) (by decide)) rfl (Nat.le_trans (by decide) hd) (by decide) (Nat.le_of_ble_eq_true rfl) (fun _ => ?_)
    refine AW_iconst (v := 1) dX10_opens_28 (by decide) ?_
    exact AW_zret dX10_opens_29 rfl rfl (hq _ _ _ (Option.some.inj hf).symm)
  · replace hf := rk_it hf h1
    refine AW_aload_n0 dX10_opens_8 ?_
    replace hf := rk_bd hf
    obtain ⟨I3, e3, hf⟩ := hf
    refine AW_iV0vz (w_X10_fail (d := 0) hM e3) dX10_opens_9 kl_X10_226 (hM.1 31 (by decide) (by decide)) rfl (Nat.le_trans (by decide) hd) (by decide) (Nat.le_of_ble_eq_true rfl) (fun _ => ?_)
    refine AW_iconst (v := 0) dX10_opens_12 (by decide) ?_
    exact AW_zret dX10_opens_13 rfl rfl (hq _ _ _ (Option.some.inj hf).symm)
theorem w_X10_opens {G : rk_G} {l : Launch} {d : Nat} {n : Nat} {S : rk_Sh} {I : rk_I} {J : rk_J} {R : rk_R}  {v8 : Int32} {I8 : rk_I} {J8 : rk_J} (hd : 2 ≤ d) (hM : rk_LM S R) (hf : f_X10_opens I J = some (v8, I8, J8)) :
    CW G l yX10_opens cX10_opens 1 (some .boolean) d 0 0 [.ref 31] n S I J R (rk_qi v8 n S I8 J8 R True) :=
  CW.of (by decide +kernel) (Nat.le_of_ble_eq_true rfl) (rk_sbs rk_sb0) (b_X10_opens hd hM hf (fun v9 I9 J9 h9 => by cases h9; exact ⟨rfl, rfl, rfl, rfl, rfl, rfl, trivial⟩))
noncomputable def f_X10_dueOf (I : rk_I) (a1 : Int32) : Option (Int32) :=
(rk_rd I 43 24 a1).bind fun x1 =>
(rk_rd I 42 24 a1).bind fun x2 =>
some (x1 * x2)
theorem b_X10_dueOf {G : rk_G} {l : Launch} {d kc ks : Nat} {n : Nat} {S : rk_Sh} {I : rk_I} {J : rk_J} {R : rk_R} {Q : rk_Q} {a1 : Int32} {r : Int32} (hM : rk_LM S R) (hf : f_X10_dueOf I a1 = some r) (hq : ∀ (v9 : Int32), r = v9 → Q (some (.int v9)) n S I J R) :
    AW G l yX10_dueOf cX10_dueOf 2 (some .int) d kc ks 0 [some (.ref 31), some (.int a1)] [] n S I J R Q := by
  unfold f_X10_dueOf at hf
  refine AW_aload_n0 dX10_dueOf_0 ?_
  refine AW_getR dX10_dueOf_1 kf_X10_47 rfl (hM.1 31 (by decide) (by decide)) (by decide) (hM.2 31 16 43 rfl) ?_
  refine AW_iload_n1 dX10_dueOf_4 ?_
  replace hf := rk_bd hf
  obtain ⟨x1, e1, hf⟩ := hf
  refine AW_rd dX10_dueOf_5 (hM.1 43 (by decide) (by decide)) e1 ?_
  refine AW_aload_n0 dX10_dueOf_6 ?_
  refine AW_getR dX10_dueOf_7 kf_X10_44 rfl (hM.1 31 (by decide) (by decide)) (by decide) (hM.2 31 15 42 rfl) ?_
  refine AW_iload_n1 dX10_dueOf_10 ?_
  replace hf := rk_bd hf
  obtain ⟨x2, e2, hf⟩ := hf
  refine AW_rd dX10_dueOf_11 (hM.1 42 (by decide) (by decide)) e2 ?_
  refine AW_imul dX10_dueOf_12 ?_
  exact AW_iret dX10_dueOf_13 rfl (hq _ (Option.some.inj hf).symm)
theorem w_X10_dueOf {G : rk_G} {l : Launch} {d : Nat} {n : Nat} {S : rk_Sh} {I : rk_I} {J : rk_J} {R : rk_R} {a1 : Int32} {v8 : Int32} (hM : rk_LM S R) (hf : f_X10_dueOf I a1 = some v8) :
    CW G l yX10_dueOf cX10_dueOf 2 (some .int) d 0 0 [.ref 31, .int a1] n S I J R (rk_qi v8 n S I J R True) :=
  CW.of (by decide +kernel) (Nat.le_of_ble_eq_true rfl) (rk_sbs (rk_sbs rk_sb0)) (b_X10_dueOf hM hf (fun v9 h9 => by cases h9; exact ⟨rfl, rfl, rfl, rfl, rfl, rfl, trivial⟩))
noncomputable def f_X10_name (I : rk_I) (J : rk_J)  : Option (Int32 × rk_I) :=
(f_X10_isWord I J 223456).bind fun x1 =>
if x1 = 0 then (
(f_X10_isWord I J 168984).bind fun x2 =>
if x2 = 0 then (
(f_X10_isWord I J 8863997).bind fun x3 =>
if x3 = 0 then (
(f_X10_isWord I J 21568592).bind fun x4 =>
if x4 = 0 then (
(f_X10_isWord I J 315904).bind fun x5 =>
if x5 = 0 then (
(f_X10_isWord I J 3488).bind fun x6 =>
if x6 = 0 then (
(f_X10_fail I).bind fun I1 =>
some (0, I1)) else (
(f_X10_dueOf I (I 31 32)).bind fun x7 =>
some (x7, I))) else (
(rk_rd I 46 24 (I 31 32)).bind fun x8 =>
some (x8, I))) else (
(rk_rd I 42 24 (I 31 32)).bind fun x9 =>
some (x9, I))) else (
(rk_rd I 43 24 (I 31 32)).bind fun x10 =>
some (x10, I))) else (
some ((I 31 33), I))) else (
(rk_rd I 38 24 (I 31 32)).bind fun x11 =>
some (x11, I))
theorem b_X10_name {G : rk_G} {l : Launch} {d kc ks : Nat} {n : Nat} {S : rk_Sh} {I : rk_I} {J : rk_J} {R : rk_R} {Q : rk_Q}  {r : Int32 × rk_I} (hd : 1 ≤ d) (hM : rk_LM S R) (hf : f_X10_name I J = some r) (hq : ∀ (v9 : Int32) (I9 : rk_I), r = (v9, I9) → Q (some (.int v9)) n S I9 J R) :
    AW G l yX10_name cX10_name 1 (some .int) d kc ks 0 [some (.ref 31)] [] n S I J R Q := by
  unfold f_X10_name at hf
  refine AW_aload_n0 dX10_name_0 ?_
  refine AW_ldc2 dX10_name_1 kv_X10_232 ?_
  replace hf := rk_bd hf
  obtain ⟨x1, e1, hf⟩ := hf
  refine AW_iV1iz (w_X10_isWord (d := 0) hM e1) dX10_name_4 kl_X10_234 (hM.1 31 (by decide) (by decide)) rfl (Nat.le_trans (by decide) hd) (by decide) (Nat.le_of_ble_eq_true rfl) (fun _ => ?_)
  refine AW_if_eq 20 dX10_name_7 (by decide) (fun h1 => ?_) (fun h1 => ?_)
  · replace hf := rk_it hf h1
    refine AW_aload_n0 dX10_name_20 ?_
    refine AW_ldc2 dX10_name_21 kv_X10_241 ?_
    replace hf := rk_bd hf
    obtain ⟨x2, e2, hf⟩ := hf
    refine AW_iV1iz (w_X10_isWord (d := 0) hM e2) dX10_name_24 kl_X10_234 (hM.1 31 (by decide) (by decide)) rfl (Nat.le_trans (by decide) hd) (by decide) (Nat.le_of_ble_eq_true rfl) (fun _ => ?_)
    refine AW_if_eq 35 dX10_name_27 (by decide) (fun h2 => ?_) (fun h2 => ?_)
    · replace hf := rk_it hf h2
      refine AW_aload_n0 dX10_name_35 ?_
      refine AW_ldc2 dX10_name_36 kv_X10_246 ?_
      replace hf := rk_bd hf
      obtain ⟨x3, e3, hf⟩ := hf
      refine AW_iV1iz (w_X10_isWord (d := 0) hM e3) dX10_name_39 kl_X10_234 (hM.1 31 (by decide) (by decide)) rfl (Nat.le_trans (by decide) hd) (by decide) (Nat.le_of_ble_eq_true rfl) (fun _ => ?_)
      refine AW_if_eq 55 dX10_name_42 (by decide) (fun h3 => ?_) (fun h3 => ?_)
      · replace hf := rk_it hf h3
        refine AW_aload_n0 dX10_name_55 ?_
        refine AW_ldc2 dX10_name_56 kv_X10_248 ?_
        replace hf := rk_bd hf
        obtain ⟨x4, e4, hf⟩ := hf
        refine AW_iV1iz (w_X10_isWord (d := 0) hM e4) dX10_name_59 kl_X10_234 (hM.1 31 (by decide) (by decide)) rfl (Nat.le_trans (by decide) hd) (by decide) (Nat.le_of_ble_eq_true rfl) (fun _ => ?_)
        refine AW_if_eq 75 dX10_name_62 (by decide) (fun h4 => ?_) (fun h4 => ?_)
        · replace hf := rk_it hf h4
          refine AW_aload_n0 dX10_name_75 ?_
          refine AW_ldc2 dX10_name_76 kv_X10_250 ?_
          replace hf := rk_bd hf
          obtain ⟨x5, e5, hf⟩ := hf
          refine AW_iV1iz (w_X10_isWord (d := 0) hM e5) dX10_name_79 kl_X10_234 (hM.1 31 (by decide) (by decide)) rfl (Nat.le_trans (by decide) hd) (by decide) (Nat.le_of_ble_eq_true rfl) (fun _ => ?_)
          refine AW_if_eq 95 dX10_name_82 (by decide) (fun h5 => ?_) (fun h5 => ?_)
          · replace hf := rk_it hf h5
            refine AW_aload_n0 dX10_name_95 ?_
            refine AW_ldc2 dX10_name_96 kv_X10_252 ?_
            replace hf := rk_bd hf
            obtain ⟨x6, e6, hf⟩ := hf
            refine AW_iV1iz (w_X10_isWord (d := 0) hM e6) dX10_name_99 kl_X10_234 (hM.1 31 (by decide) (by decide)) rfl (Nat.le_trans (by decide) hd) (by decide) (Nat.le_of_ble_eq_true rfl) (fun _ => ?_)
            refine AW_if_eq 114 dX10_name_102 (by decide) (fun h6 => ?_) (fun h6 => ?_)
            · replace hf := rk_it hf h6
              refine AW_aload_n0 dX10_name_114 ?_
              replace hf := rk_bd hf
              obtain ⟨I1, e7, hf⟩ := hf
              refine AW_iV0vz (w_X10_fail (d := 0) hM e7) dX10_name_115 kl_X10_226 (hM.1 31 (by decide) (by decide)) rfl (Nat.le_trans (by decide) hd) (by decide) (Nat.le_of_ble_eq_true rfl) (fun _ => ?_)
              refine AW_iconst (v := 0) dX10_name_118 (by decide) ?_
              exact AW_iret dX10_name_119 rfl (hq _ _ (Option.some.inj hf).symm)
            · replace hf := rk_if hf h6
              refine AW_aload_n0 dX10_name_105 ?_
              refine AW_aload_n0 dX10_name_106 ?_
              refine AW_getI dX10_name_107 kf_X10_238 rfl (hM.1 31 (by decide) (by decide)) (by decide) ?_
              replace hf := rk_bd hf
              obtain ⟨x7, e8, hf⟩ := hf
              refine AW_iV1iz (w_X10_dueOf (d := 0) hM e8) dX10_name_110 kl_X10_254 (hM.1 31 (by decide) (by decide)) rfl (Nat.le_trans (by decide) hd) (by decide) (Nat.le_of_ble_eq_true rfl) (fun _ => ?_)
              exact AW_iret dX10_name_113 rfl (hq _ _ (Option.some.inj hf).symm)
          · replace hf := rk_if hf h5
            refine AW_aload_n0 dX10_name_85 ?_
            refine AW_getR dX10_name_86 kf_X10_56 rfl (hM.1 31 (by decide) (by decide)) (by decide) (hM.2 31 19 46 rfl) ?_
            refine AW_aload_n0 dX10_name_89 ?_
            refine AW_getI dX10_name_90 kf_X10_238 rfl (hM.1 31 (by decide) (by decide)) (by decide) ?_
            replace hf := rk_bd hf
            obtain ⟨x8, e9, hf⟩ := hf
            refine AW_rd dX10_name_93 (hM.1 46 (by decide) (by decide)) e9 ?_
            exact AW_iret dX10_name_94 rfl (hq _ _ (Option.some.inj hf).symm)
        · replace hf := rk_if hf h4
          refine AW_aload_n0 dX10_name_65 ?_
          refine AW_getR dX10_name_66 kf_X10_44 rfl (hM.1 31 (by decide) (by decide)) (by decide) (hM.2 31 15 42 rfl) ?_
          refine AW_aload_n0 dX10_name_69 ?_
          refine AW_getI dX10_name_70 kf_X10_238 rfl (hM.1 31 (by decide) (by decide)) (by decide) ?_
          replace hf := rk_bd hf
          obtain ⟨x9, e10, hf⟩ := hf
          refine AW_rd dX10_name_73 (hM.1 42 (by decide) (by decide)) e10 ?_
          exact AW_iret dX10_name_74 rfl (hq _ _ (Option.some.inj hf).symm)
      · replace hf := rk_if hf h3
        refine AW_aload_n0 dX10_name_45 ?_
        refine AW_getR dX10_name_46 kf_X10_47 rfl (hM.1 31 (by decide) (by decide)) (by decide) (hM.2 31 16 43 rfl) ?_
        refine AW_aload_n0 dX10_name_49 ?_
        refine AW_getI dX10_name_50 kf_X10_238 rfl (hM.1 31 (by decide) (by decide)) (by decide) ?_
        replace hf := rk_bd hf
        obtain ⟨x10, e11, hf⟩ := hf
        refine AW_rd dX10_name_53 (hM.1 43 (by decide) (by decide)) e11 ?_
        exact AW_iret dX10_name_54 rfl (hq _ _ (Option.some.inj hf).symm)
    · replace hf := rk_if hf h2
      refine AW_aload_n0 dX10_name_30 ?_
      refine AW_getI dX10_name_31 kf_X10_243 rfl (hM.1 31 (by decide) (by decide)) (by decide) ?_
      exact AW_iret dX10_name_34 rfl (hq _ _ (Option.some.inj hf).symm)
  · replace hf := rk_if hf h1
    refine AW_aload_n0 dX10_name_10 ?_
    refine AW_getR dX10_name_11 kf_X10_32 rfl (hM.1 31 (by decide) (by decide)) (by decide) (hM.2 31 11 38 rfl) ?_
    refine AW_aload_n0 dX10_name_14 ?_
    refine AW_getI dX10_name_15 kf_X10_238 rfl (hM.1 31 (by decide) (by decide)) (by decide) ?_
    replace hf := rk_bd hf
    obtain ⟨x11, e12, hf⟩ := hf
    refine AW_rd dX10_name_18 (hM.1 38 (by decide) (by decide)) e12 ?_
    exact AW_iret dX10_name_19 rfl (hq _ _ (Option.some.inj hf).symm)
theorem w_X10_name {G : rk_G} {l : Launch} {d : Nat} {n : Nat} {S : rk_Sh} {I : rk_I} {J : rk_J} {R : rk_R}  {v8 : Int32} {I8 : rk_I} (hd : 1 ≤ d) (hM : rk_LM S R) (hf : f_X10_name I J = some (v8, I8)) :
    CW G l yX10_name cX10_name 1 (some .int) d 0 0 [.ref 31] n S I J R (rk_qi v8 n S I8 J R True) :=
  CW.of (by decide +kernel) (Nat.le_of_ble_eq_true rfl) (rk_sbs rk_sb0) (b_X10_name hd hM hf (fun v9 I9 h9 => by cases h9; exact ⟨rfl, rfl, rfl, rfl, rfl, rfl, trivial⟩))
noncomputable def f_X10_either_l5 (rec : Nat → rk_I → rk_J → Option (Int32 × rk_I × rk_J)) (I : rk_I) (J : rk_J) (s1 : Int32) : Option ((Int32 × rk_I × rk_J) ⊕ (Int32 × rk_I × rk_J)) :=
(f_X10_isWord I J 423).bind fun x1 =>
if x1 = 0 then (
some (.inr (s1, I, J))) else (
rk_b2 (f_X10_next I J) fun I1 J1 =>
rk_b3 (rec 1  I1 J1) fun x2 I2 J2 =>
if s1 = 0 then (
if x2 = 0 then (
some (.inl (0, I2, J2))) else (
some (.inl (1, I2, J2)))) else (
some (.inl (1, I2, J2))))
theorem b_X10_either_l5 {G : rk_G} {l : Launch} {d kc ks : Nat} {n : Nat} {S : rk_Sh} {I : rk_I} {J : rk_J} {R : rk_R} {Q : rk_Q} {s1 : Int32} {r : (Int32 × rk_I × rk_J) ⊕ (Int32 × rk_I × rk_J)} {d0 : Nat} {rec : Nat → rk_I → rk_J → Option (Int32 × rk_I × rk_J)} (hd0 : d0 + 1 ≤ d) (hr0 : ∀ (n : Nat) (S : rk_Sh) (I : rk_I) (J : rk_J) (R : rk_R) (v9 : Int32) (I9 : rk_I) (J9 : rk_J), rk_LM S R → rec 0  I J = some (v9, I9, J9) → CW G l yX10_either cX10_either 3 (some .int) d0 0 0 [.ref 31] n S I J R (rk_qi v9 n S I9 J9 R True)) (hr1 : ∀ (n : Nat) (S : rk_Sh) (I : rk_I) (J : rk_J) (R : rk_R) (v9 : Int32) (I9 : rk_I) (J9 : rk_J), rk_LM S R → rec 1  I J = some (v9, I9, J9) → CW G l yX10_both cX10_both 3 (some .int) d0 0 0 [.ref 31] n S I J R (rk_qi v9 n S I9 J9 R True)) (hr2 : ∀ (n : Nat) (S : rk_Sh) (I : rk_I) (J : rk_J) (R : rk_R) (v9 : Int32) (I9 : rk_I) (J9 : rk_J), rk_LM S R → rec 2  I J = some (v9, I9, J9) → CW G l yX10_not cX10_not 4 (some .int) d0 0 0 [.ref 31] n S I J R (rk_qi v9 n S I9 J9 R True)) (hr3 : ∀ (n : Nat) (S : rk_Sh) (I : rk_I) (J : rk_J) (R : rk_R) (v9 : Int32) (I9 : rk_I) (J9 : rk_J), rk_LM S R → rec 3  I J = some (v9, I9, J9) → CW G l yX10_added cX10_added 4 (some .int) d0 0 0 [.ref 31] n S I J R (rk_qi v9 n S I9 J9 R True)) (hr4 : ∀ (n : Nat) (S : rk_Sh) (I : rk_I) (J : rk_J) (R : rk_R) (v9 : Int32) (I9 : rk_I) (J9 : rk_J), rk_LM S R → rec 4  I J = some (v9, I9, J9) → CW G l yX10_term cX10_term 2 (some .int) d0 0 0 [.ref 31] n S I J R (rk_qi v9 n S I9 J9 R True)) (hr5 : ∀ (n : Nat) (S : rk_Sh) (I : rk_I) (J : rk_J) (R : rk_R) (v9 : Int32) (I9 : rk_I) (J9 : rk_J), rk_LM S R → rec 5  I J = some (v9, I9, J9) → CW G l yX10_one cX10_one 2 (some .int) d0 0 0 [.ref 31] n S I J R (rk_qi v9 n S I9 J9 R True)) (hd : 2 ≤ d) (hM : rk_LM S R) (hf : f_X10_either_l5 rec I J s1 = some r) (hc : ∀ (w0 : Int32) (I9 : rk_I) (J9 : rk_J), r = .inl (w0, I9, J9) → AW G l yX10_either cX10_either 3 (some .int) d kc ks 5 [some (.ref 31), some (.int w0), none] [] n S I9 J9 R Q) (he : ∀ (w0 : Int32) (I9 : rk_I) (J9 : rk_J), r = .inr (w0, I9, J9) → AW G l yX10_either cX10_either 3 (some .int) d kc ks 41 [some (.ref 31), some (.int w0), none] [] n S I9 J9 R Q) :
    AW G l yX10_either cX10_either 3 (some .int) d kc ks 5 [some (.ref 31), some (.int s1), none] [] n S I J R Q := by
  unfold f_X10_either_l5 at hf
  refine AW_aload_n0 dX10_either_5 ?_
  refine AW_ldc2 dX10_either_6 kv_X10_293 ?_
  replace hf := rk_bd hf
  obtain ⟨x1, e1, hf⟩ := hf
  refine AW_iV1iz (w_X10_isWord (d := 0) hM e1) dX10_either_9 kl_X10_234 (hM.1 31 (by decide) (by decide)) rfl (Nat.le_trans (by decide) hd) (by decide) (Nat.le_of_ble_eq_true rfl) (fun _ => ?_)
  refine AW_if_eq 41 dX10_either_12 (by decide) (fun h1 => ?_) (fun h1 => ?_)
  · replace hf := rk_it hf h1
    refine AW_sb (rk_sbs (rk_sbs (rk_sbn rk_sb0))) ?_
    exact he _ _ _ (Option.some.inj hf).symm
  · replace hf := rk_if hf h1
    refine AW_aload_n0 dX10_either_15 ?_
    replace hf := rk_bd2 hf
    obtain ⟨I1, J1, e2, hf⟩ := hf
    refine AW_iV0vz (w_X10_next (d := 1) (Nat.le_refl _) hM e2) dX10_either_16 kl_X10_229 (hM.1 31 (by decide) (by decide)) rfl (Nat.le_trans (by decide) hd) (by decide) (Nat.le_of_ble_eq_true rfl) (fun _ => ?_)
    refine AW_aload_n0 dX10_either_19 ?_
    replace hf := rk_bd3 hf
    obtain ⟨x2, I2, J2, e3, hf⟩ := hf
    refine AW_iV0iz (hr1 _ _ _ _ _  _ _ _ hM e3) dX10_either_20 kl_X10_290 (hM.1 31 (by decide) (by decide)) rfl hd0 (by decide) (Nat.le_of_ble_eq_true rfl) (fun _ => ?_)
    refine AW_istore_n2 dX10_either_23 (by decide) rfl ?_
    refine AW_iload_n1 dX10_either_24 ?_
    refine AW_if_ne 32 dX10_either_25 (by decide) (fun h2 => ?_) (fun h2 => ?_)
    · replace hf := rk_if hf h2
      refine AW_iconst (v := 1) dX10_either_32 (by decide) ?_
      refine AW_goto 37 dX10_either_33 (by decide) ?_
      refine AW_istore_n1 dX10_either_37 (by decide) rfl ?_
      refine AW_goto 5 dX10_either_38 (by decide) ?_
      refine AW_sb (rk_sbs (rk_sbs (rk_sbn rk_sb0))) ?_
      exact hc _ _ _ (Option.some.inj hf).symm
    · replace hf := rk_it hf h2
      refine AW_iload_n2 dX10_either_28 ?_
      refine AW_if_eq 36 dX10_either_29 (by decide) (fun h3 => ?_) (fun h3 => ?_)
      · replace hf := rk_it hf h3
        refine AW_iconst (v := 0) dX10_either_36 (by decide) ?_
        refine AW_istore_n1 dX10_either_37 (by decide) rfl ?_
        refine AW_goto 5 dX10_either_38 (by decide) ?_
        refine AW_sb (rk_sbs (rk_sbs (rk_sbn rk_sb0))) ?_
        exact hc _ _ _ (Option.some.inj hf).symm
      · replace hf := rk_if hf h3
        refine AW_iconst (v := 1) dX10_either_32 (by decide) ?_
        refine AW_goto 37 dX10_either_33 (by decide) ?_
        refine AW_istore_n1 dX10_either_37 (by decide) rfl ?_
        refine AW_goto 5 dX10_either_38 (by decide) ?_
        refine AW_sb (rk_sbs (rk_sbs (rk_sbn rk_sb0))) ?_
        exact hc _ _ _ (Option.some.inj hf).symm
theorem L_X10_either_w5 {G : rk_G} {l : Launch} {d kc ks : Nat} {n : Nat} {S : rk_Sh} {R : rk_R} {Q : rk_Q}  {r : Int32 × rk_I × rk_J} {d0 : Nat} {rec : Nat → rk_I → rk_J → Option (Int32 × rk_I × rk_J)} (hd0 : d0 + 1 ≤ d) (hr0 : ∀ (n : Nat) (S : rk_Sh) (I : rk_I) (J : rk_J) (R : rk_R) (v9 : Int32) (I9 : rk_I) (J9 : rk_J), rk_LM S R → rec 0  I J = some (v9, I9, J9) → CW G l yX10_either cX10_either 3 (some .int) d0 0 0 [.ref 31] n S I J R (rk_qi v9 n S I9 J9 R True)) (hr1 : ∀ (n : Nat) (S : rk_Sh) (I : rk_I) (J : rk_J) (R : rk_R) (v9 : Int32) (I9 : rk_I) (J9 : rk_J), rk_LM S R → rec 1  I J = some (v9, I9, J9) → CW G l yX10_both cX10_both 3 (some .int) d0 0 0 [.ref 31] n S I J R (rk_qi v9 n S I9 J9 R True)) (hr2 : ∀ (n : Nat) (S : rk_Sh) (I : rk_I) (J : rk_J) (R : rk_R) (v9 : Int32) (I9 : rk_I) (J9 : rk_J), rk_LM S R → rec 2  I J = some (v9, I9, J9) → CW G l yX10_not cX10_not 4 (some .int) d0 0 0 [.ref 31] n S I J R (rk_qi v9 n S I9 J9 R True)) (hr3 : ∀ (n : Nat) (S : rk_Sh) (I : rk_I) (J : rk_J) (R : rk_R) (v9 : Int32) (I9 : rk_I) (J9 : rk_J), rk_LM S R → rec 3  I J = some (v9, I9, J9) → CW G l yX10_added cX10_added 4 (some .int) d0 0 0 [.ref 31] n S I J R (rk_qi v9 n S I9 J9 R True)) (hr4 : ∀ (n : Nat) (S : rk_Sh) (I : rk_I) (J : rk_J) (R : rk_R) (v9 : Int32) (I9 : rk_I) (J9 : rk_J), rk_LM S R → rec 4  I J = some (v9, I9, J9) → CW G l yX10_term cX10_term 2 (some .int) d0 0 0 [.ref 31] n S I J R (rk_qi v9 n S I9 J9 R True)) (hr5 : ∀ (n : Nat) (S : rk_Sh) (I : rk_I) (J : rk_J) (R : rk_R) (v9 : Int32) (I9 : rk_I) (J9 : rk_J), rk_LM S R → rec 5  I J = some (v9, I9, J9) → CW G l yX10_one cX10_one 2 (some .int) d0 0 0 [.ref 31] n S I J R (rk_qi v9 n S I9 J9 R True)) (hd : 2 ≤ d) (hM : rk_LM S R) (he : ∀ (w0 : Int32) (I9 : rk_I) (J9 : rk_J), r = (w0, I9, J9) → AW G l yX10_either cX10_either 3 (some .int) d kc ks 41 [some (.ref 31), some (.int w0), none] [] n S I9 J9 R Q) :
    ∀ (m9 : Nat) (s1 : Int32) (I : rk_I) (J : rk_J), rk_loop (fun a9 => f_X10_either_l5 rec a9.2.1 a9.2.2 a9.1) m9 (s1, I, J) = some r → AW G l yX10_either cX10_either 3 (some .int) d kc ks 5 [some (.ref 31), some (.int s1), none] [] n S I J R Q := by
  intro m9
  induction m9 with
  | zero => intro s1 I J hf; cases hf
  | succ m9 ih =>
    intro s1 I J hf 
    obtain ⟨r9, hf, hr⟩ := rk_loop_s hf
    exact b_X10_either_l5 hd0 hr0 hr1 hr2 hr3 hr4 hr5 hd hM hf (fun _ _ _ h9 => by subst h9; exact ih _ _ _ hr) (fun _ _ _ h9 => by subst h9; exact he _ _ _ hr.symm)
noncomputable def f_X10_either (rec : Nat → rk_I → rk_J → Option (Int32 × rk_I × rk_J)) (I : rk_I) (J : rk_J)  : Option (Int32 × rk_I × rk_J) :=
rk_b3 (rec 1  I J) fun x1 I1 J1 =>
rk_b3 (rk_while (fun a9 => f_X10_either_l5 rec a9.2.1 a9.2.2 a9.1) (x1, I1, J1)) fun x2 I2 J2 =>
some (x2, I2, J2)
theorem b_X10_either {G : rk_G} {l : Launch} {d kc ks : Nat} {n : Nat} {S : rk_Sh} {I : rk_I} {J : rk_J} {R : rk_R} {Q : rk_Q}  {r : Int32 × rk_I × rk_J} {d0 : Nat} {rec : Nat → rk_I → rk_J → Option (Int32 × rk_I × rk_J)} (hd0 : d0 + 1 ≤ d) (hr0 : ∀ (n : Nat) (S : rk_Sh) (I : rk_I) (J : rk_J) (R : rk_R) (v9 : Int32) (I9 : rk_I) (J9 : rk_J), rk_LM S R → rec 0  I J = some (v9, I9, J9) → CW G l yX10_either cX10_either 3 (some .int) d0 0 0 [.ref 31] n S I J R (rk_qi v9 n S I9 J9 R True)) (hr1 : ∀ (n : Nat) (S : rk_Sh) (I : rk_I) (J : rk_J) (R : rk_R) (v9 : Int32) (I9 : rk_I) (J9 : rk_J), rk_LM S R → rec 1  I J = some (v9, I9, J9) → CW G l yX10_both cX10_both 3 (some .int) d0 0 0 [.ref 31] n S I J R (rk_qi v9 n S I9 J9 R True)) (hr2 : ∀ (n : Nat) (S : rk_Sh) (I : rk_I) (J : rk_J) (R : rk_R) (v9 : Int32) (I9 : rk_I) (J9 : rk_J), rk_LM S R → rec 2  I J = some (v9, I9, J9) → CW G l yX10_not cX10_not 4 (some .int) d0 0 0 [.ref 31] n S I J R (rk_qi v9 n S I9 J9 R True)) (hr3 : ∀ (n : Nat) (S : rk_Sh) (I : rk_I) (J : rk_J) (R : rk_R) (v9 : Int32) (I9 : rk_I) (J9 : rk_J), rk_LM S R → rec 3  I J = some (v9, I9, J9) → CW G l yX10_added cX10_added 4 (some .int) d0 0 0 [.ref 31] n S I J R (rk_qi v9 n S I9 J9 R True)) (hr4 : ∀ (n : Nat) (S : rk_Sh) (I : rk_I) (J : rk_J) (R : rk_R) (v9 : Int32) (I9 : rk_I) (J9 : rk_J), rk_LM S R → rec 4  I J = some (v9, I9, J9) → CW G l yX10_term cX10_term 2 (some .int) d0 0 0 [.ref 31] n S I J R (rk_qi v9 n S I9 J9 R True)) (hr5 : ∀ (n : Nat) (S : rk_Sh) (I : rk_I) (J : rk_J) (R : rk_R) (v9 : Int32) (I9 : rk_I) (J9 : rk_J), rk_LM S R → rec 5  I J = some (v9, I9, J9) → CW G l yX10_one cX10_one 2 (some .int) d0 0 0 [.ref 31] n S I J R (rk_qi v9 n S I9 J9 R True)) (hd : 2 ≤ d) (hM : rk_LM S R) (hf : f_X10_either rec I J = some r) (hq : ∀ (v9 : Int32) (I9 : rk_I) (J9 : rk_J), r = (v9, I9, J9) → Q (some (.int v9)) n S I9 J9 R) :
    AW G l yX10_either cX10_either 3 (some .int) d kc ks 0 [some (.ref 31), none, none] [] n S I J R Q := by
  unfold f_X10_either at hf
  refine AW_aload_n0 dX10_either_0 ?_
  replace hf := rk_bd3 hf
  obtain ⟨x1, I1, J1, e1, hf⟩ := hf
  refine AW_iV0iz (hr1 _ _ _ _ _  _ _ _ hM e1) dX10_either_1 kl_X10_290 (hM.1 31 (by decide) (by decide)) rfl hd0 (by decide) (Nat.le_of_ble_eq_true rfl) (fun _ => ?_)
  refine AW_istore_n1 dX10_either_4 (by decide) rfl ?_
  refine AW_sb (rk_sbs (rk_sbs (rk_sbn rk_sb0))) ?_
  replace hf := rk_bd3 hf
  obtain ⟨x2, I2, J2, e2, hf⟩ := hf
  obtain ⟨m1, e2⟩ := rk_while_sp e2
  refine L_X10_either_w5 hd0 hr0 hr1 hr2 hr3 hr4 hr5 (Nat.le_trans (by decide) hd) hM ?_ m1 _ _ _ e2
  intro x2 I2 J2 h9
  cases h9
  refine AW_iload_n1 dX10_either_41 ?_
  exact AW_iret dX10_either_42 rfl (hq _ _ _ (Option.some.inj hf).symm)
theorem w_X10_either {G : rk_G} {l : Launch} {d : Nat} {n : Nat} {S : rk_Sh} {I : rk_I} {J : rk_J} {R : rk_R}  {v8 : Int32} {I8 : rk_I} {J8 : rk_J} {d0 : Nat} {rec : Nat → rk_I → rk_J → Option (Int32 × rk_I × rk_J)} (hd0 : d0 + 1 ≤ d) (hr0 : ∀ (n : Nat) (S : rk_Sh) (I : rk_I) (J : rk_J) (R : rk_R) (v9 : Int32) (I9 : rk_I) (J9 : rk_J), rk_LM S R → rec 0  I J = some (v9, I9, J9) → CW G l yX10_either cX10_either 3 (some .int) d0 0 0 [.ref 31] n S I J R (rk_qi v9 n S I9 J9 R True)) (hr1 : ∀ (n : Nat) (S : rk_Sh) (I : rk_I) (J : rk_J) (R : rk_R) (v9 : Int32) (I9 : rk_I) (J9 : rk_J), rk_LM S R → rec 1  I J = some (v9, I9, J9) → CW G l yX10_both cX10_both 3 (some .int) d0 0 0 [.ref 31] n S I J R (rk_qi v9 n S I9 J9 R True)) (hr2 : ∀ (n : Nat) (S : rk_Sh) (I : rk_I) (J : rk_J) (R : rk_R) (v9 : Int32) (I9 : rk_I) (J9 : rk_J), rk_LM S R → rec 2  I J = some (v9, I9, J9) → CW G l yX10_not cX10_not 4 (some .int) d0 0 0 [.ref 31] n S I J R (rk_qi v9 n S I9 J9 R True)) (hr3 : ∀ (n : Nat) (S : rk_Sh) (I : rk_I) (J : rk_J) (R : rk_R) (v9 : Int32) (I9 : rk_I) (J9 : rk_J), rk_LM S R → rec 3  I J = some (v9, I9, J9) → CW G l yX10_added cX10_added 4 (some .int) d0 0 0 [.ref 31] n S I J R (rk_qi v9 n S I9 J9 R True)) (hr4 : ∀ (n : Nat) (S : rk_Sh) (I : rk_I) (J : rk_J) (R : rk_R) (v9 : Int32) (I9 : rk_I) (J9 : rk_J), rk_LM S R → rec 4  I J = some (v9, I9, J9) → CW G l yX10_term cX10_term 2 (some .int) d0 0 0 [.ref 31] n S I J R (rk_qi v9 n S I9 J9 R True)) (hr5 : ∀ (n : Nat) (S : rk_Sh) (I : rk_I) (J : rk_J) (R : rk_R) (v9 : Int32) (I9 : rk_I) (J9 : rk_J), rk_LM S R → rec 5  I J = some (v9, I9, J9) → CW G l yX10_one cX10_one 2 (some .int) d0 0 0 [.ref 31] n S I J R (rk_qi v9 n S I9 J9 R True)) (hd : 2 ≤ d) (hM : rk_LM S R) (hf : f_X10_either rec I J = some (v8, I8, J8)) :
    CW G l yX10_either cX10_either 3 (some .int) d 0 0 [.ref 31] n S I J R (rk_qi v8 n S I8 J8 R True) :=
  CW.of (by decide +kernel) (Nat.le_of_ble_eq_true rfl) (rk_sbs (rk_sbe (rk_sbe rk_sb0))) (b_X10_either hd0 hr0 hr1 hr2 hr3 hr4 hr5 hd hM hf (fun v9 I9 J9 h9 => by cases h9; exact ⟨rfl, rfl, rfl, rfl, rfl, rfl, trivial⟩))
noncomputable def f_X10_both_l5 (rec : Nat → rk_I → rk_J → Option (Int32 × rk_I × rk_J)) (I : rk_I) (J : rk_J) (s1 : Int32) : Option ((Int32 × rk_I × rk_J) ⊕ (Int32 × rk_I × rk_J)) :=
(f_X10_isWord I J 1111).bind fun x1 =>
if x1 = 0 then (
some (.inr (s1, I, J))) else (
rk_b2 (f_X10_next I J) fun I1 J1 =>
rk_b3 (rec 2  I1 J1) fun x2 I2 J2 =>
if s1 = 0 then (
some (.inl (0, I2, J2))) else (
if x2 = 0 then (
some (.inl (0, I2, J2))) else (
some (.inl (1, I2, J2)))))
theorem b_X10_both_l5 {G : rk_G} {l : Launch} {d kc ks : Nat} {n : Nat} {S : rk_Sh} {I : rk_I} {J : rk_J} {R : rk_R} {Q : rk_Q} {s1 : Int32} {r : (Int32 × rk_I × rk_J) ⊕ (Int32 × rk_I × rk_J)} {d0 : Nat} {rec : Nat → rk_I → rk_J → Option (Int32 × rk_I × rk_J)} (hd0 : d0 + 1 ≤ d) (hr0 : ∀ (n : Nat) (S : rk_Sh) (I : rk_I) (J : rk_J) (R : rk_R) (v9 : Int32) (I9 : rk_I) (J9 : rk_J), rk_LM S R → rec 0  I J = some (v9, I9, J9) → CW G l yX10_either cX10_either 3 (some .int) d0 0 0 [.ref 31] n S I J R (rk_qi v9 n S I9 J9 R True)) (hr1 : ∀ (n : Nat) (S : rk_Sh) (I : rk_I) (J : rk_J) (R : rk_R) (v9 : Int32) (I9 : rk_I) (J9 : rk_J), rk_LM S R → rec 1  I J = some (v9, I9, J9) → CW G l yX10_both cX10_both 3 (some .int) d0 0 0 [.ref 31] n S I J R (rk_qi v9 n S I9 J9 R True)) (hr2 : ∀ (n : Nat) (S : rk_Sh) (I : rk_I) (J : rk_J) (R : rk_R) (v9 : Int32) (I9 : rk_I) (J9 : rk_J), rk_LM S R → rec 2  I J = some (v9, I9, J9) → CW G l yX10_not cX10_not 4 (some .int) d0 0 0 [.ref 31] n S I J R (rk_qi v9 n S I9 J9 R True)) (hr3 : ∀ (n : Nat) (S : rk_Sh) (I : rk_I) (J : rk_J) (R : rk_R) (v9 : Int32) (I9 : rk_I) (J9 : rk_J), rk_LM S R → rec 3  I J = some (v9, I9, J9) → CW G l yX10_added cX10_added 4 (some .int) d0 0 0 [.ref 31] n S I J R (rk_qi v9 n S I9 J9 R True)) (hr4 : ∀ (n : Nat) (S : rk_Sh) (I : rk_I) (J : rk_J) (R : rk_R) (v9 : Int32) (I9 : rk_I) (J9 : rk_J), rk_LM S R → rec 4  I J = some (v9, I9, J9) → CW G l yX10_term cX10_term 2 (some .int) d0 0 0 [.ref 31] n S I J R (rk_qi v9 n S I9 J9 R True)) (hr5 : ∀ (n : Nat) (S : rk_Sh) (I : rk_I) (J : rk_J) (R : rk_R) (v9 : Int32) (I9 : rk_I) (J9 : rk_J), rk_LM S R → rec 5  I J = some (v9, I9, J9) → CW G l yX10_one cX10_one 2 (some .int) d0 0 0 [.ref 31] n S I J R (rk_qi v9 n S I9 J9 R True)) (hd : 2 ≤ d) (hM : rk_LM S R) (hf : f_X10_both_l5 rec I J s1 = some r) (hc : ∀ (w0 : Int32) (I9 : rk_I) (J9 : rk_J), r = .inl (w0, I9, J9) → AW G l yX10_both cX10_both 3 (some .int) d kc ks 5 [some (.ref 31), some (.int w0), none] [] n S I9 J9 R Q) (he : ∀ (w0 : Int32) (I9 : rk_I) (J9 : rk_J), r = .inr (w0, I9, J9) → AW G l yX10_both cX10_both 3 (some .int) d kc ks 41 [some (.ref 31), some (.int w0), none] [] n S I9 J9 R Q) :
    AW G l yX10_both cX10_both 3 (some .int) d kc ks 5 [some (.ref 31), some (.int s1), none] [] n S I J R Q := by
  unfold f_X10_both_l5 at hf
  refine AW_aload_n0 dX10_both_5 ?_
  refine AW_ldc2 dX10_both_6 kv_X10_288 ?_
  replace hf := rk_bd hf
  obtain ⟨x1, e1, hf⟩ := hf
  refine AW_iV1iz (w_X10_isWord (d := 0) hM e1) dX10_both_9 kl_X10_234 (hM.1 31 (by decide) (by decide)) rfl (Nat.le_trans (by decide) hd) (by decide) (Nat.le_of_ble_eq_true rfl) (fun _ => ?_)
  refine AW_if_eq 41 dX10_both_12 (by decide) (fun h1 => ?_) (fun h1 => ?_)
  · replace hf := rk_it hf h1
    refine AW_sb (rk_sbs (rk_sbs (rk_sbn rk_sb0))) ?_
    exact he _ _ _ (Option.some.inj hf).symm
  · replace hf := rk_if hf h1
    refine AW_aload_n0 dX10_both_15 ?_
    replace hf := rk_bd2 hf
    obtain ⟨I1, J1, e2, hf⟩ := hf
    refine AW_iV0vz (w_X10_next (d := 1) (Nat.le_refl _) hM e2) dX10_both_16 kl_X10_229 (hM.1 31 (by decide) (by decide)) rfl (Nat.le_trans (by decide) hd) (by decide) (Nat.le_of_ble_eq_true rfl) (fun _ => ?_)
    refine AW_aload_n0 dX10_both_19 ?_
    replace hf := rk_bd3 hf
    obtain ⟨x2, I2, J2, e3, hf⟩ := hf
    refine AW_iV0iz (hr2 _ _ _ _ _  _ _ _ hM e3) dX10_both_20 kl_X10_280 (hM.1 31 (by decide) (by decide)) rfl hd0 (by decide) (Nat.le_of_ble_eq_true rfl) (fun _ => ?_)
    refine AW_istore_n2 dX10_both_23 (by decide) rfl ?_
    refine AW_iload_n1 dX10_both_24 ?_
    refine AW_if_eq 36 dX10_both_25 (by decide) (fun h2 => ?_) (fun h2 => ?_)
    · replace hf := rk_it hf h2
      refine AW_iconst (v := 0) dX10_both_36 (by decide) ?_
      refine AW_istore_n1 dX10_both_37 (by decide) rfl ?_
      refine AW_goto 5 dX10_both_38 (by decide) ?_
      refine AW_sb (rk_sbs (rk_sbs (rk_sbn rk_sb0))) ?_
      exact hc _ _ _ (Option.some.inj hf).symm
    · replace hf := rk_if hf h2
      refine AW_iload_n2 dX10_both_28 ?_
      refine AW_if_eq 36 dX10_both_29 (by decide) (fun h3 => ?_) (fun h3 => ?_)
      · replace hf := rk_it hf h3
        refine AW_iconst (v := 0) dX10_both_36 (by decide) ?_
        refine AW_istore_n1 dX10_both_37 (by decide) rfl ?_
        refine AW_goto 5 dX10_both_38 (by decide) ?_
        refine AW_sb (rk_sbs (rk_sbs (rk_sbn rk_sb0))) ?_
        exact hc _ _ _ (Option.some.inj hf).symm
      · replace hf := rk_if hf h3
        refine AW_iconst (v := 1) dX10_both_32 (by decide) ?_
        refine AW_goto 37 dX10_both_33 (by decide) ?_
        refine AW_istore_n1 dX10_both_37 (by decide) rfl ?_
        refine AW_goto 5 dX10_both_38 (by decide) ?_
        refine AW_sb (rk_sbs (rk_sbs (rk_sbn rk_sb0))) ?_
        exact hc _ _ _ (Option.some.inj hf).symm
theorem L_X10_both_w5 {G : rk_G} {l : Launch} {d kc ks : Nat} {n : Nat} {S : rk_Sh} {R : rk_R} {Q : rk_Q}  {r : Int32 × rk_I × rk_J} {d0 : Nat} {rec : Nat → rk_I → rk_J → Option (Int32 × rk_I × rk_J)} (hd0 : d0 + 1 ≤ d) (hr0 : ∀ (n : Nat) (S : rk_Sh) (I : rk_I) (J : rk_J) (R : rk_R) (v9 : Int32) (I9 : rk_I) (J9 : rk_J), rk_LM S R → rec 0  I J = some (v9, I9, J9) → CW G l yX10_either cX10_either 3 (some .int) d0 0 0 [.ref 31] n S I J R (rk_qi v9 n S I9 J9 R True)) (hr1 : ∀ (n : Nat) (S : rk_Sh) (I : rk_I) (J : rk_J) (R : rk_R) (v9 : Int32) (I9 : rk_I) (J9 : rk_J), rk_LM S R → rec 1  I J = some (v9, I9, J9) → CW G l yX10_both cX10_both 3 (some .int) d0 0 0 [.ref 31] n S I J R (rk_qi v9 n S I9 J9 R True)) (hr2 : ∀ (n : Nat) (S : rk_Sh) (I : rk_I) (J : rk_J) (R : rk_R) (v9 : Int32) (I9 : rk_I) (J9 : rk_J), rk_LM S R → rec 2  I J = some (v9, I9, J9) → CW G l yX10_not cX10_not 4 (some .int) d0 0 0 [.ref 31] n S I J R (rk_qi v9 n S I9 J9 R True)) (hr3 : ∀ (n : Nat) (S : rk_Sh) (I : rk_I) (J : rk_J) (R : rk_R) (v9 : Int32) (I9 : rk_I) (J9 : rk_J), rk_LM S R → rec 3  I J = some (v9, I9, J9) → CW G l yX10_added cX10_added 4 (some .int) d0 0 0 [.ref 31] n S I J R (rk_qi v9 n S I9 J9 R True)) (hr4 : ∀ (n : Nat) (S : rk_Sh) (I : rk_I) (J : rk_J) (R : rk_R) (v9 : Int32) (I9 : rk_I) (J9 : rk_J), rk_LM S R → rec 4  I J = some (v9, I9, J9) → CW G l yX10_term cX10_term 2 (some .int) d0 0 0 [.ref 31] n S I J R (rk_qi v9 n S I9 J9 R True)) (hr5 : ∀ (n : Nat) (S : rk_Sh) (I : rk_I) (J : rk_J) (R : rk_R) (v9 : Int32) (I9 : rk_I) (J9 : rk_J), rk_LM S R → rec 5  I J = some (v9, I9, J9) → CW G l yX10_one cX10_one 2 (some .int) d0 0 0 [.ref 31] n S I J R (rk_qi v9 n S I9 J9 R True)) (hd : 2 ≤ d) (hM : rk_LM S R) (he : ∀ (w0 : Int32) (I9 : rk_I) (J9 : rk_J), r = (w0, I9, J9) → AW G l yX10_both cX10_both 3 (some .int) d kc ks 41 [some (.ref 31), some (.int w0), none] [] n S I9 J9 R Q) :
    ∀ (m9 : Nat) (s1 : Int32) (I : rk_I) (J : rk_J), rk_loop (fun a9 => f_X10_both_l5 rec a9.2.1 a9.2.2 a9.1) m9 (s1, I, J) = some r → AW G l yX10_both cX10_both 3 (some .int) d kc ks 5 [some (.ref 31), some (.int s1), none] [] n S I J R Q := by
  intro m9
  induction m9 with
  | zero => intro s1 I J hf; cases hf
  | succ m9 ih =>
    intro s1 I J hf 
    obtain ⟨r9, hf, hr⟩ := rk_loop_s hf
    exact b_X10_both_l5 hd0 hr0 hr1 hr2 hr3 hr4 hr5 hd hM hf (fun _ _ _ h9 => by subst h9; exact ih _ _ _ hr) (fun _ _ _ h9 => by subst h9; exact he _ _ _ hr.symm)
noncomputable def f_X10_both (rec : Nat → rk_I → rk_J → Option (Int32 × rk_I × rk_J)) (I : rk_I) (J : rk_J)  : Option (Int32 × rk_I × rk_J) :=
rk_b3 (rec 2  I J) fun x1 I1 J1 =>
rk_b3 (rk_while (fun a9 => f_X10_both_l5 rec a9.2.1 a9.2.2 a9.1) (x1, I1, J1)) fun x2 I2 J2 =>
some (x2, I2, J2)
theorem b_X10_both {G : rk_G} {l : Launch} {d kc ks : Nat} {n : Nat} {S : rk_Sh} {I : rk_I} {J : rk_J} {R : rk_R} {Q : rk_Q}  {r : Int32 × rk_I × rk_J} {d0 : Nat} {rec : Nat → rk_I → rk_J → Option (Int32 × rk_I × rk_J)} (hd0 : d0 + 1 ≤ d) (hr0 : ∀ (n : Nat) (S : rk_Sh) (I : rk_I) (J : rk_J) (R : rk_R) (v9 : Int32) (I9 : rk_I) (J9 : rk_J), rk_LM S R → rec 0  I J = some (v9, I9, J9) → CW G l yX10_either cX10_either 3 (some .int) d0 0 0 [.ref 31] n S I J R (rk_qi v9 n S I9 J9 R True)) (hr1 : ∀ (n : Nat) (S : rk_Sh) (I : rk_I) (J : rk_J) (R : rk_R) (v9 : Int32) (I9 : rk_I) (J9 : rk_J), rk_LM S R → rec 1  I J = some (v9, I9, J9) → CW G l yX10_both cX10_both 3 (some .int) d0 0 0 [.ref 31] n S I J R (rk_qi v9 n S I9 J9 R True)) (hr2 : ∀ (n : Nat) (S : rk_Sh) (I : rk_I) (J : rk_J) (R : rk_R) (v9 : Int32) (I9 : rk_I) (J9 : rk_J), rk_LM S R → rec 2  I J = some (v9, I9, J9) → CW G l yX10_not cX10_not 4 (some .int) d0 0 0 [.ref 31] n S I J R (rk_qi v9 n S I9 J9 R True)) (hr3 : ∀ (n : Nat) (S : rk_Sh) (I : rk_I) (J : rk_J) (R : rk_R) (v9 : Int32) (I9 : rk_I) (J9 : rk_J), rk_LM S R → rec 3  I J = some (v9, I9, J9) → CW G l yX10_added cX10_added 4 (some .int) d0 0 0 [.ref 31] n S I J R (rk_qi v9 n S I9 J9 R True)) (hr4 : ∀ (n : Nat) (S : rk_Sh) (I : rk_I) (J : rk_J) (R : rk_R) (v9 : Int32) (I9 : rk_I) (J9 : rk_J), rk_LM S R → rec 4  I J = some (v9, I9, J9) → CW G l yX10_term cX10_term 2 (some .int) d0 0 0 [.ref 31] n S I J R (rk_qi v9 n S I9 J9 R True)) (hr5 : ∀ (n : Nat) (S : rk_Sh) (I : rk_I) (J : rk_J) (R : rk_R) (v9 : Int32) (I9 : rk_I) (J9 : rk_J), rk_LM S R → rec 5  I J = some (v9, I9, J9) → CW G l yX10_one cX10_one 2 (some .int) d0 0 0 [.ref 31] n S I J R (rk_qi v9 n S I9 J9 R True)) (hd : 2 ≤ d) (hM : rk_LM S R) (hf : f_X10_both rec I J = some r) (hq : ∀ (v9 : Int32) (I9 : rk_I) (J9 : rk_J), r = (v9, I9, J9) → Q (some (.int v9)) n S I9 J9 R) :
    AW G l yX10_both cX10_both 3 (some .int) d kc ks 0 [some (.ref 31), none, none] [] n S I J R Q := by
  unfold f_X10_both at hf
  refine AW_aload_n0 dX10_both_0 ?_
  replace hf := rk_bd3 hf
  obtain ⟨x1, I1, J1, e1, hf⟩ := hf
  refine AW_iV0iz (hr2 _ _ _ _ _  _ _ _ hM e1) dX10_both_1 kl_X10_280 (hM.1 31 (by decide) (by decide)) rfl hd0 (by decide) (Nat.le_of_ble_eq_true rfl) (fun _ => ?_)
  refine AW_istore_n1 dX10_both_4 (by decide) rfl ?_
  refine AW_sb (rk_sbs (rk_sbs (rk_sbn rk_sb0))) ?_
  replace hf := rk_bd3 hf
  obtain ⟨x2, I2, J2, e2, hf⟩ := hf
  obtain ⟨m1, e2⟩ := rk_while_sp e2
  refine L_X10_both_w5 hd0 hr0 hr1 hr2 hr3 hr4 hr5 (Nat.le_trans (by decide) hd) hM ?_ m1 _ _ _ e2
  intro x2 I2 J2 h9
  cases h9
  refine AW_iload_n1 dX10_both_41 ?_
  exact AW_iret dX10_both_42 rfl (hq _ _ _ (Option.some.inj hf).symm)
theorem w_X10_both {G : rk_G} {l : Launch} {d : Nat} {n : Nat} {S : rk_Sh} {I : rk_I} {J : rk_J} {R : rk_R}  {v8 : Int32} {I8 : rk_I} {J8 : rk_J} {d0 : Nat} {rec : Nat → rk_I → rk_J → Option (Int32 × rk_I × rk_J)} (hd0 : d0 + 1 ≤ d) (hr0 : ∀ (n : Nat) (S : rk_Sh) (I : rk_I) (J : rk_J) (R : rk_R) (v9 : Int32) (I9 : rk_I) (J9 : rk_J), rk_LM S R → rec 0  I J = some (v9, I9, J9) → CW G l yX10_either cX10_either 3 (some .int) d0 0 0 [.ref 31] n S I J R (rk_qi v9 n S I9 J9 R True)) (hr1 : ∀ (n : Nat) (S : rk_Sh) (I : rk_I) (J : rk_J) (R : rk_R) (v9 : Int32) (I9 : rk_I) (J9 : rk_J), rk_LM S R → rec 1  I J = some (v9, I9, J9) → CW G l yX10_both cX10_both 3 (some .int) d0 0 0 [.ref 31] n S I J R (rk_qi v9 n S I9 J9 R True)) (hr2 : ∀ (n : Nat) (S : rk_Sh) (I : rk_I) (J : rk_J) (R : rk_R) (v9 : Int32) (I9 : rk_I) (J9 : rk_J), rk_LM S R → rec 2  I J = some (v9, I9, J9) → CW G l yX10_not cX10_not 4 (some .int) d0 0 0 [.ref 31] n S I J R (rk_qi v9 n S I9 J9 R True)) (hr3 : ∀ (n : Nat) (S : rk_Sh) (I : rk_I) (J : rk_J) (R : rk_R) (v9 : Int32) (I9 : rk_I) (J9 : rk_J), rk_LM S R → rec 3  I J = some (v9, I9, J9) → CW G l yX10_added cX10_added 4 (some .int) d0 0 0 [.ref 31] n S I J R (rk_qi v9 n S I9 J9 R True)) (hr4 : ∀ (n : Nat) (S : rk_Sh) (I : rk_I) (J : rk_J) (R : rk_R) (v9 : Int32) (I9 : rk_I) (J9 : rk_J), rk_LM S R → rec 4  I J = some (v9, I9, J9) → CW G l yX10_term cX10_term 2 (some .int) d0 0 0 [.ref 31] n S I J R (rk_qi v9 n S I9 J9 R True)) (hr5 : ∀ (n : Nat) (S : rk_Sh) (I : rk_I) (J : rk_J) (R : rk_R) (v9 : Int32) (I9 : rk_I) (J9 : rk_J), rk_LM S R → rec 5  I J = some (v9, I9, J9) → CW G l yX10_one cX10_one 2 (some .int) d0 0 0 [.ref 31] n S I J R (rk_qi v9 n S I9 J9 R True)) (hd : 2 ≤ d) (hM : rk_LM S R) (hf : f_X10_both rec I J = some (v8, I8, J8)) :
    CW G l yX10_both cX10_both 3 (some .int) d 0 0 [.ref 31] n S I J R (rk_qi v8 n S I8 J8 R True) :=
  CW.of (by decide +kernel) (Nat.le_of_ble_eq_true rfl) (rk_sbs (rk_sbe (rk_sbe rk_sb0))) (b_X10_both hd0 hr0 hr1 hr2 hr3 hr4 hr5 hd hM hf (fun v9 I9 J9 h9 => by cases h9; exact ⟨rfl, rfl, rfl, rfl, rfl, rfl, trivial⟩))
noncomputable def f_X10_not_j85 (rec : Nat → rk_I → rk_J → Option (Int32 × rk_I × rk_J)) (I : rk_I) (J : rk_J) (j1 : Int32) (t0 : Int32) : Option (Int32 × rk_I × rk_J) :=
rk_b2 (f_X10_next I J) fun I1 J1 =>
rk_b3 (rec 3  I1 J1) fun x1 I2 J2 =>
if t0 = 0 then (
if j1 = x1 then (
some (1, I2, J2)) else (
some (0, I2, J2))) else (
if x1 ≤ j1 then (
some (0, I2, J2)) else (
some (1, I2, J2)))
theorem b_X10_not_j85 {G : rk_G} {l : Launch} {d kc ks : Nat} {n : Nat} {S : rk_Sh} {I : rk_I} {J : rk_J} {R : rk_R} {Q : rk_Q} {j1 : Int32} {t0 : Int32} {r : Int32 × rk_I × rk_J} {d0 : Nat} {rec : Nat → rk_I → rk_J → Option (Int32 × rk_I × rk_J)} (hd0 : d0 + 1 ≤ d) (hr0 : ∀ (n : Nat) (S : rk_Sh) (I : rk_I) (J : rk_J) (R : rk_R) (v9 : Int32) (I9 : rk_I) (J9 : rk_J), rk_LM S R → rec 0  I J = some (v9, I9, J9) → CW G l yX10_either cX10_either 3 (some .int) d0 0 0 [.ref 31] n S I J R (rk_qi v9 n S I9 J9 R True)) (hr1 : ∀ (n : Nat) (S : rk_Sh) (I : rk_I) (J : rk_J) (R : rk_R) (v9 : Int32) (I9 : rk_I) (J9 : rk_J), rk_LM S R → rec 1  I J = some (v9, I9, J9) → CW G l yX10_both cX10_both 3 (some .int) d0 0 0 [.ref 31] n S I J R (rk_qi v9 n S I9 J9 R True)) (hr2 : ∀ (n : Nat) (S : rk_Sh) (I : rk_I) (J : rk_J) (R : rk_R) (v9 : Int32) (I9 : rk_I) (J9 : rk_J), rk_LM S R → rec 2  I J = some (v9, I9, J9) → CW G l yX10_not cX10_not 4 (some .int) d0 0 0 [.ref 31] n S I J R (rk_qi v9 n S I9 J9 R True)) (hr3 : ∀ (n : Nat) (S : rk_Sh) (I : rk_I) (J : rk_J) (R : rk_R) (v9 : Int32) (I9 : rk_I) (J9 : rk_J), rk_LM S R → rec 3  I J = some (v9, I9, J9) → CW G l yX10_added cX10_added 4 (some .int) d0 0 0 [.ref 31] n S I J R (rk_qi v9 n S I9 J9 R True)) (hr4 : ∀ (n : Nat) (S : rk_Sh) (I : rk_I) (J : rk_J) (R : rk_R) (v9 : Int32) (I9 : rk_I) (J9 : rk_J), rk_LM S R → rec 4  I J = some (v9, I9, J9) → CW G l yX10_term cX10_term 2 (some .int) d0 0 0 [.ref 31] n S I J R (rk_qi v9 n S I9 J9 R True)) (hr5 : ∀ (n : Nat) (S : rk_Sh) (I : rk_I) (J : rk_J) (R : rk_R) (v9 : Int32) (I9 : rk_I) (J9 : rk_J), rk_LM S R → rec 5  I J = some (v9, I9, J9) → CW G l yX10_one cX10_one 2 (some .int) d0 0 0 [.ref 31] n S I J R (rk_qi v9 n S I9 J9 R True)) (hd : 3 ≤ d) (hM : rk_LM S R) (hf : f_X10_not_j85 rec I J j1 t0 = some r) (hq : ∀ (v9 : Int32) (I9 : rk_I) (J9 : rk_J), r = (v9, I9, J9) → Q (some (.int v9)) n S I9 J9 R) :
    AW G l yX10_not cX10_not 4 (some .int) d kc ks 85 [some (.ref 31), some (.int j1), none, none] [.int t0] n S I J R Q := by
  unfold f_X10_not_j85 at hf
  refine AW_istore_n2 dX10_not_85 (by decide) rfl ?_
  refine AW_aload_n0 dX10_not_86 ?_
  replace hf := rk_bd2 hf
  obtain ⟨I1, J1, e1, hf⟩ := hf
  refine AW_iV0vz (w_X10_next (d := 1) (Nat.le_refl _) hM e1) dX10_not_87 kl_X10_229 (hM.1 31 (by decide) (by decide)) rfl (Nat.le_trans (by decide) hd) (by decide) (Nat.le_of_ble_eq_true rfl) (fun _ => ?_)
  refine AW_aload_n0 dX10_not_90 ?_
  replace hf := rk_bd3 hf
  obtain ⟨x1, I2, J2, e2, hf⟩ := hf
  refine AW_iV0iz (hr3 _ _ _ _ _  _ _ _ hM e2) dX10_not_91 kl_X10_283 (hM.1 31 (by decide) (by decide)) rfl hd0 (by decide) (Nat.le_of_ble_eq_true rfl) (fun _ => ?_)
  refine AW_istore_n3 dX10_not_94 (by decide) rfl ?_
  refine AW_iload_n2 dX10_not_95 ?_
  refine AW_if_eq 107 dX10_not_96 (by decide) (fun h1 => ?_) (fun h1 => ?_)
  · replace hf := rk_it hf h1
    refine AW_iload_n1 dX10_not_107 ?_
    refine AW_iload_n3 dX10_not_108 ?_
    refine AW_icmp_ne 116 dX10_not_109 (by decide) (fun h2 => ?_) (fun h2 => ?_)
    · replace hf := rk_if hf h2
      refine AW_iconst (v := 0) dX10_not_116 (by decide) ?_
      exact AW_iret dX10_not_117 rfl (hq _ _ _ (Option.some.inj hf).symm)
    · replace hf := rk_it hf h2
      refine AW_iconst (v := 1) dX10_not_112 (by decide) ?_
      refine AW_goto 117 dX10_not_113 (by decide) ?_
      exact AW_iret dX10_not_117 rfl (hq _ _ _ (Option.some.inj hf).symm)
  · replace hf := rk_if hf h1
    refine AW_iload_n1 dX10_not_99 ?_
    refine AW_iload_n3 dX10_not_100 ?_
    refine AW_icmp_ge 116 dX10_not_101 (by decide) (fun h3 => ?_) (fun h3 => ?_)
    · replace hf := rk_it hf h3
      refine AW_iconst (v := 0) dX10_not_116 (by decide) ?_
      exact AW_iret dX10_not_117 rfl (hq _ _ _ (Option.some.inj hf).symm)
    · replace hf := rk_if hf h3
      refine AW_goto 112 dX10_not_104 (by decide) ?_
      refine AW_iconst (v := 1) dX10_not_112 (by decide) ?_
      refine AW_goto 117 dX10_not_113 (by decide) ?_
      exact AW_iret dX10_not_117 rfl (hq _ _ _ (Option.some.inj hf).symm)
noncomputable def f_X10_not_j69 (rec : Nat → rk_I → rk_J → Option (Int32 × rk_I × rk_J)) (I : rk_I) (J : rk_J) (j1 : Int32) : Option (Int32 × rk_I × rk_J) :=
if (lg_cmp (J 31 27) 60) = 0 then (
f_X10_not_j85 rec I J j1 1) else (
f_X10_not_j85 rec I J j1 0)
theorem b_X10_not_j69 {G : rk_G} {l : Launch} {d kc ks : Nat} {n : Nat} {S : rk_Sh} {I : rk_I} {J : rk_J} {R : rk_R} {Q : rk_Q} {j1 : Int32} {r : Int32 × rk_I × rk_J} {d0 : Nat} {rec : Nat → rk_I → rk_J → Option (Int32 × rk_I × rk_J)} (hd0 : d0 + 1 ≤ d) (hr0 : ∀ (n : Nat) (S : rk_Sh) (I : rk_I) (J : rk_J) (R : rk_R) (v9 : Int32) (I9 : rk_I) (J9 : rk_J), rk_LM S R → rec 0  I J = some (v9, I9, J9) → CW G l yX10_either cX10_either 3 (some .int) d0 0 0 [.ref 31] n S I J R (rk_qi v9 n S I9 J9 R True)) (hr1 : ∀ (n : Nat) (S : rk_Sh) (I : rk_I) (J : rk_J) (R : rk_R) (v9 : Int32) (I9 : rk_I) (J9 : rk_J), rk_LM S R → rec 1  I J = some (v9, I9, J9) → CW G l yX10_both cX10_both 3 (some .int) d0 0 0 [.ref 31] n S I J R (rk_qi v9 n S I9 J9 R True)) (hr2 : ∀ (n : Nat) (S : rk_Sh) (I : rk_I) (J : rk_J) (R : rk_R) (v9 : Int32) (I9 : rk_I) (J9 : rk_J), rk_LM S R → rec 2  I J = some (v9, I9, J9) → CW G l yX10_not cX10_not 4 (some .int) d0 0 0 [.ref 31] n S I J R (rk_qi v9 n S I9 J9 R True)) (hr3 : ∀ (n : Nat) (S : rk_Sh) (I : rk_I) (J : rk_J) (R : rk_R) (v9 : Int32) (I9 : rk_I) (J9 : rk_J), rk_LM S R → rec 3  I J = some (v9, I9, J9) → CW G l yX10_added cX10_added 4 (some .int) d0 0 0 [.ref 31] n S I J R (rk_qi v9 n S I9 J9 R True)) (hr4 : ∀ (n : Nat) (S : rk_Sh) (I : rk_I) (J : rk_J) (R : rk_R) (v9 : Int32) (I9 : rk_I) (J9 : rk_J), rk_LM S R → rec 4  I J = some (v9, I9, J9) → CW G l yX10_term cX10_term 2 (some .int) d0 0 0 [.ref 31] n S I J R (rk_qi v9 n S I9 J9 R True)) (hr5 : ∀ (n : Nat) (S : rk_Sh) (I : rk_I) (J : rk_J) (R : rk_R) (v9 : Int32) (I9 : rk_I) (J9 : rk_J), rk_LM S R → rec 5  I J = some (v9, I9, J9) → CW G l yX10_one cX10_one 2 (some .int) d0 0 0 [.ref 31] n S I J R (rk_qi v9 n S I9 J9 R True)) (hd : 3 ≤ d) (hM : rk_LM S R) (hf : f_X10_not_j69 rec I J j1 = some r) (hq : ∀ (v9 : Int32) (I9 : rk_I) (J9 : rk_J), r = (v9, I9, J9) → Q (some (.int v9)) n S I9 J9 R) :
    AW G l yX10_not cX10_not 4 (some .int) d kc ks 69 [some (.ref 31), some (.int j1), none, none] [] n S I J R Q := by
  unfold f_X10_not_j69 at hf
  refine AW_aload_n0 dX10_not_69 ?_
  refine AW_getJ dX10_not_70 kf_X10_202 rfl (hM.1 31 (by decide) (by decide)) (by decide) ?_
  refine AW_ldc2 dX10_not_73 kv_X10_286 ?_
  refine AW_lcmp dX10_not_76 ?_
  refine AW_if_ne 84 dX10_not_77 (by decide) (fun h1 => ?_) (fun h1 => ?_)
  · replace hf := rk_if hf h1
    refine AW_iconst (v := 0) dX10_not_84 (by decide) ?_
    refine AW_sb (rk_sbs (rk_sbs (rk_sbn (rk_sbn rk_sb0)))) ?_
    exact b_X10_not_j85 hd0 hr0 hr1 hr2 hr3 hr4 hr5 (Nat.le_trans (by decide) hd) hM hf hq
  · replace hf := rk_it hf h1
    refine AW_iconst (v := 1) dX10_not_80 (by decide) ?_
    refine AW_goto 85 dX10_not_81 (by decide) ?_
    refine AW_sb (rk_sbs (rk_sbs (rk_sbn (rk_sbn rk_sb0)))) ?_
    exact b_X10_not_j85 hd0 hr0 hr1 hr2 hr3 hr4 hr5 (Nat.le_trans (by decide) hd) hM hf hq
noncomputable def f_X10_not (rec : Nat → rk_I → rk_J → Option (Int32 × rk_I × rk_J)) (I : rk_I) (J : rk_J)  : Option (Int32 × rk_I × rk_J) :=
(f_X10_isWord I J 10631).bind fun x1 =>
if x1 = 0 then (
rk_b3 (rec 3  I J) fun x2 I1 J1 =>
(f_X10_isSign I1 J1 60).bind fun x3 =>
if x3 = 0 then (
(f_X10_isSign I1 J1 61).bind fun x4 =>
if x4 = 0 then (
some (x2, I1, J1)) else (
f_X10_not_j69 rec I1 J1 x2)) else (
f_X10_not_j69 rec I1 J1 x2)) else (
rk_b3 (f_X10_opens I J) fun x5 I2 J2 =>
if x5 = 0 then (
some (0, I2, J2)) else (
rk_b3 (rec 2  I2 J2) fun x6 I3 J3 =>
(some (rk_ui I3 31 29 ((I3 31 29) - 1))).bind fun I4 =>
if x6 = 0 then (
some (1, I4, J3)) else (
some (0, I4, J3))))
theorem b_X10_not {G : rk_G} {l : Launch} {d kc ks : Nat} {n : Nat} {S : rk_Sh} {I : rk_I} {J : rk_J} {R : rk_R} {Q : rk_Q}  {r : Int32 × rk_I × rk_J} {d0 : Nat} {rec : Nat → rk_I → rk_J → Option (Int32 × rk_I × rk_J)} (hd0 : d0 + 1 ≤ d) (hr0 : ∀ (n : Nat) (S : rk_Sh) (I : rk_I) (J : rk_J) (R : rk_R) (v9 : Int32) (I9 : rk_I) (J9 : rk_J), rk_LM S R → rec 0  I J = some (v9, I9, J9) → CW G l yX10_either cX10_either 3 (some .int) d0 0 0 [.ref 31] n S I J R (rk_qi v9 n S I9 J9 R True)) (hr1 : ∀ (n : Nat) (S : rk_Sh) (I : rk_I) (J : rk_J) (R : rk_R) (v9 : Int32) (I9 : rk_I) (J9 : rk_J), rk_LM S R → rec 1  I J = some (v9, I9, J9) → CW G l yX10_both cX10_both 3 (some .int) d0 0 0 [.ref 31] n S I J R (rk_qi v9 n S I9 J9 R True)) (hr2 : ∀ (n : Nat) (S : rk_Sh) (I : rk_I) (J : rk_J) (R : rk_R) (v9 : Int32) (I9 : rk_I) (J9 : rk_J), rk_LM S R → rec 2  I J = some (v9, I9, J9) → CW G l yX10_not cX10_not 4 (some .int) d0 0 0 [.ref 31] n S I J R (rk_qi v9 n S I9 J9 R True)) (hr3 : ∀ (n : Nat) (S : rk_Sh) (I : rk_I) (J : rk_J) (R : rk_R) (v9 : Int32) (I9 : rk_I) (J9 : rk_J), rk_LM S R → rec 3  I J = some (v9, I9, J9) → CW G l yX10_added cX10_added 4 (some .int) d0 0 0 [.ref 31] n S I J R (rk_qi v9 n S I9 J9 R True)) (hr4 : ∀ (n : Nat) (S : rk_Sh) (I : rk_I) (J : rk_J) (R : rk_R) (v9 : Int32) (I9 : rk_I) (J9 : rk_J), rk_LM S R → rec 4  I J = some (v9, I9, J9) → CW G l yX10_term cX10_term 2 (some .int) d0 0 0 [.ref 31] n S I J R (rk_qi v9 n S I9 J9 R True)) (hr5 : ∀ (n : Nat) (S : rk_Sh) (I : rk_I) (J : rk_J) (R : rk_R) (v9 : Int32) (I9 : rk_I) (J9 : rk_J), rk_LM S R → rec 5  I J = some (v9, I9, J9) → CW G l yX10_one cX10_one 2 (some .int) d0 0 0 [.ref 31] n S I J R (rk_qi v9 n S I9 J9 R True)) (hd : 3 ≤ d) (hM : rk_LM S R) (hf : f_X10_not rec I J = some r) (hq : ∀ (v9 : Int32) (I9 : rk_I) (J9 : rk_J), r = (v9, I9, J9) → Q (some (.int v9)) n S I9 J9 R) :
    AW G l yX10_not cX10_not 4 (some .int) d kc ks 0 [some (.ref 31), none, none, none] [] n S I J R Q := by
  unfold f_X10_not at hf
  refine AW_aload_n0 dX10_not_0 ?_
  refine AW_ldc2 dX10_not_1 kv_X10_278 ?_
  replace hf := rk_bd hf
  obtain ⟨x1, e1, hf⟩ := hf
  refine AW_iV1iz (w_X10_isWord (d := 0) hM e1) dX10_not_4 kl_X10_234 (hM.1 31 (by decide) (by decide)) rfl (Nat.le_trans (by decide) hd) (by decide) (Nat.le_of_ble_eq_true rfl) (fun _ => ?_)
  refine AW_if_eq 44 dX10_not_7 (by decide) (fun h1 => ?_) (fun h1 => ?_)
  · replace hf := rk_it hf h1
    refine AW_aload_n0 dX10_not_44 ?_
    replace hf := rk_bd3 hf
    obtain ⟨x2, I1, J1, e2, hf⟩ := hf
    refine AW_iV0iz (hr3 _ _ _ _ _  _ _ _ hM e2) dX10_not_45 kl_X10_283 (hM.1 31 (by decide) (by decide)) rfl hd0 (by decide) (Nat.le_of_ble_eq_true rfl) (fun _ => ?_)
    refine AW_istore_n1 dX10_not_48 (by decide) rfl ?_
    refine AW_aload_n0 dX10_not_49 ?_
    refine AW_bipush (v := 60) dX10_not_50 (by decide) ?_
    replace hf := rk_bd hf
    obtain ⟨x3, e3, hf⟩ := hf
    refine AW_iV1iz (w_X10_isSign (d := 0) hM e3) dX10_not_52 kl_X10_257 (hM.1 31 (by decide) (by decide)) rfl (Nat.le_trans (by decide) hd) (by decide) (Nat.le_of_ble_eq_true rfl) (fun _ => ?_)
    refine AW_if_ne 69 dX10_not_55 (by decide) (fun h2 => ?_) (fun h2 => ?_)
    · replace hf := rk_if hf h2
      refine AW_sb (rk_sbs (rk_sbs (rk_sbn (rk_sbn rk_sb0)))) ?_
      exact b_X10_not_j69 hd0 hr0 hr1 hr2 hr3 hr4 hr5 (Nat.le_trans (by decide) hd) hM hf hq
    · replace hf := rk_it hf h2
      refine AW_aload_n0 dX10_not_58 ?_
      refine AW_bipush (v := 61) dX10_not_59 (by decide) ?_
      replace hf := rk_bd hf
      obtain ⟨x4, e4, hf⟩ := hf
      refine AW_iV1iz (w_X10_isSign (d := 0) hM e4) dX10_not_61 kl_X10_257 (hM.1 31 (by decide) (by decide)) rfl (Nat.le_trans (by decide) hd) (by decide) (Nat.le_of_ble_eq_true rfl) (fun _ => ?_)
      refine AW_if_ne 69 dX10_not_64 (by decide) (fun h3 => ?_) (fun h3 => ?_)
      · replace hf := rk_if hf h3
        refine AW_sb (rk_sbs (rk_sbs (rk_sbn (rk_sbn rk_sb0)))) ?_
        exact b_X10_not_j69 hd0 hr0 hr1 hr2 hr3 hr4 hr5 (Nat.le_trans (by decide) hd) hM hf hq
      · replace hf := rk_it hf h3
        refine AW_iload_n1 dX10_not_67 ?_
        exact AW_iret dX10_not_68 rfl (hq _ _ _ (Option.some.inj hf).symm)
  · replace hf := rk_if hf h1
    refine AW_aload_n0 dX10_not_10 ?_
    replace hf := rk_bd3 hf
    obtain ⟨x5, I2, J2, e5, hf⟩ := hf
    refine AW_iV0iz (w_X10_opens (d := 2) (Nat.le_refl _) hM e5) dX10_not_11 kl_X10_260 (hM.1 31 (by decide) (by decide)) rfl (Nat.le_trans (by decide) hd) (by decide) (Nat.le_of_ble_eq_true rfl) (fun _ => ?_)
    refine AW_if_ne 19 dX10_not_14 (by decide) (fun h4 => ?_) (fun h4 => ?_)
    · replace hf := rk_if hf h4
      refine AW_aload_n0 dX10_not_19 ?_
      replace hf := rk_bd3 hf
      obtain ⟨x6, I3, J3, e6, hf⟩ := hf
      refine AW_iV0iz (hr2 _ _ _ _ _  _ _ _ hM e6) dX10_not_20 kl_X10_280 (hM.1 31 (by decide) (by decide)) rfl hd0 (by decide) (Nat.le_of_ble_eq_true rfl) (fun _ => ?_)
      refine AW_istore_n1 dX10_not_23 (by decide) rfl ?_
      refine AW_aload_n0 dX10_not_24 ?_
      refine AW_dup dX10_not_25 rfl ?_
      refine AW_getI dX10_not_26 kf_X10_223 rfl (hM.1 31 (by decide) (by decide)) (by decide) ?_
      refine AW_iconst (v := 1) dX10_not_29 (by decide) ?_
      refine AW_isub dX10_not_30 ?_
      replace hf := rk_bd hf
      obtain ⟨I4, e7, hf⟩ := hf
      refine AW_puI dX10_not_31 kf_X10_223 rfl (hM.1 31 (by decide) (by decide)) (by decide) e7 ?_
      refine AW_iload_n1 dX10_not_34 ?_
      refine AW_if_ne 42 dX10_not_35 (by decide) (fun h5 => ?_) (fun h5 => ?_)
      · replace hf := rk_if hf h5
        refine AW_iconst (v := 0) dX10_not_42 (by decide) ?_
        exact AW_iret dX10_not_43 rfl (hq _ _ _ (Option.some.inj hf).symm)
      · replace hf := rk_it hf h5
        refine AW_iconst (v := 1) dX10_not_38 (by decide) ?_
        refine AW_goto 43 dX10_not_39 (by decide) ?_
        exact AW_iret dX10_not_43 rfl (hq _ _ _ (Option.some.inj hf).symm)
    · replace hf := rk_it hf h4
      refine AW_iconst (v := 0) dX10_not_17 (by decide) ?_
      exact AW_iret dX10_not_18 rfl (hq _ _ _ (Option.some.inj hf).symm)
theorem w_X10_not {G : rk_G} {l : Launch} {d : Nat} {n : Nat} {S : rk_Sh} {I : rk_I} {J : rk_J} {R : rk_R}  {v8 : Int32} {I8 : rk_I} {J8 : rk_J} {d0 : Nat} {rec : Nat → rk_I → rk_J → Option (Int32 × rk_I × rk_J)} (hd0 : d0 + 1 ≤ d) (hr0 : ∀ (n : Nat) (S : rk_Sh) (I : rk_I) (J : rk_J) (R : rk_R) (v9 : Int32) (I9 : rk_I) (J9 : rk_J), rk_LM S R → rec 0  I J = some (v9, I9, J9) → CW G l yX10_either cX10_either 3 (some .int) d0 0 0 [.ref 31] n S I J R (rk_qi v9 n S I9 J9 R True)) (hr1 : ∀ (n : Nat) (S : rk_Sh) (I : rk_I) (J : rk_J) (R : rk_R) (v9 : Int32) (I9 : rk_I) (J9 : rk_J), rk_LM S R → rec 1  I J = some (v9, I9, J9) → CW G l yX10_both cX10_both 3 (some .int) d0 0 0 [.ref 31] n S I J R (rk_qi v9 n S I9 J9 R True)) (hr2 : ∀ (n : Nat) (S : rk_Sh) (I : rk_I) (J : rk_J) (R : rk_R) (v9 : Int32) (I9 : rk_I) (J9 : rk_J), rk_LM S R → rec 2  I J = some (v9, I9, J9) → CW G l yX10_not cX10_not 4 (some .int) d0 0 0 [.ref 31] n S I J R (rk_qi v9 n S I9 J9 R True)) (hr3 : ∀ (n : Nat) (S : rk_Sh) (I : rk_I) (J : rk_J) (R : rk_R) (v9 : Int32) (I9 : rk_I) (J9 : rk_J), rk_LM S R → rec 3  I J = some (v9, I9, J9) → CW G l yX10_added cX10_added 4 (some .int) d0 0 0 [.ref 31] n S I J R (rk_qi v9 n S I9 J9 R True)) (hr4 : ∀ (n : Nat) (S : rk_Sh) (I : rk_I) (J : rk_J) (R : rk_R) (v9 : Int32) (I9 : rk_I) (J9 : rk_J), rk_LM S R → rec 4  I J = some (v9, I9, J9) → CW G l yX10_term cX10_term 2 (some .int) d0 0 0 [.ref 31] n S I J R (rk_qi v9 n S I9 J9 R True)) (hr5 : ∀ (n : Nat) (S : rk_Sh) (I : rk_I) (J : rk_J) (R : rk_R) (v9 : Int32) (I9 : rk_I) (J9 : rk_J), rk_LM S R → rec 5  I J = some (v9, I9, J9) → CW G l yX10_one cX10_one 2 (some .int) d0 0 0 [.ref 31] n S I J R (rk_qi v9 n S I9 J9 R True)) (hd : 3 ≤ d) (hM : rk_LM S R) (hf : f_X10_not rec I J = some (v8, I8, J8)) :
    CW G l yX10_not cX10_not 4 (some .int) d 0 0 [.ref 31] n S I J R (rk_qi v8 n S I8 J8 R True) :=
  CW.of (by decide +kernel) (Nat.le_of_ble_eq_true rfl) (rk_sbs (rk_sbe (rk_sbe (rk_sbe rk_sb0)))) (b_X10_not hd0 hr0 hr1 hr2 hr3 hr4 hr5 hd hM hf (fun v9 I9 J9 h9 => by cases h9; exact ⟨rfl, rfl, rfl, rfl, rfl, rfl, trivial⟩))
noncomputable def f_X10_added_j39 (rec : Nat → rk_I → rk_J → Option (Int32 × rk_I × rk_J)) (I : rk_I) (J : rk_J) (j1 : Int32) (t0 : Int32) : Option ((Int32 × rk_I × rk_J) ⊕ (Int32 × rk_I × rk_J)) :=
rk_b2 (f_X10_next I J) fun I1 J1 =>
rk_b3 (rec 4  I1 J1) fun x1 I2 J2 =>
if t0 = 0 then (
some (.inl ((j1 - x1), I2, J2))) else (
some (.inl ((j1 + x1), I2, J2)))
theorem b_X10_added_j39 {G : rk_G} {l : Launch} {d kc ks : Nat} {n : Nat} {S : rk_Sh} {I : rk_I} {J : rk_J} {R : rk_R} {Q : rk_Q} {j1 : Int32} {t0 : Int32} {r : (Int32 × rk_I × rk_J) ⊕ (Int32 × rk_I × rk_J)} {d0 : Nat} {rec : Nat → rk_I → rk_J → Option (Int32 × rk_I × rk_J)} (hd0 : d0 + 1 ≤ d) (hr0 : ∀ (n : Nat) (S : rk_Sh) (I : rk_I) (J : rk_J) (R : rk_R) (v9 : Int32) (I9 : rk_I) (J9 : rk_J), rk_LM S R → rec 0  I J = some (v9, I9, J9) → CW G l yX10_either cX10_either 3 (some .int) d0 0 0 [.ref 31] n S I J R (rk_qi v9 n S I9 J9 R True)) (hr1 : ∀ (n : Nat) (S : rk_Sh) (I : rk_I) (J : rk_J) (R : rk_R) (v9 : Int32) (I9 : rk_I) (J9 : rk_J), rk_LM S R → rec 1  I J = some (v9, I9, J9) → CW G l yX10_both cX10_both 3 (some .int) d0 0 0 [.ref 31] n S I J R (rk_qi v9 n S I9 J9 R True)) (hr2 : ∀ (n : Nat) (S : rk_Sh) (I : rk_I) (J : rk_J) (R : rk_R) (v9 : Int32) (I9 : rk_I) (J9 : rk_J), rk_LM S R → rec 2  I J = some (v9, I9, J9) → CW G l yX10_not cX10_not 4 (some .int) d0 0 0 [.ref 31] n S I J R (rk_qi v9 n S I9 J9 R True)) (hr3 : ∀ (n : Nat) (S : rk_Sh) (I : rk_I) (J : rk_J) (R : rk_R) (v9 : Int32) (I9 : rk_I) (J9 : rk_J), rk_LM S R → rec 3  I J = some (v9, I9, J9) → CW G l yX10_added cX10_added 4 (some .int) d0 0 0 [.ref 31] n S I J R (rk_qi v9 n S I9 J9 R True)) (hr4 : ∀ (n : Nat) (S : rk_Sh) (I : rk_I) (J : rk_J) (R : rk_R) (v9 : Int32) (I9 : rk_I) (J9 : rk_J), rk_LM S R → rec 4  I J = some (v9, I9, J9) → CW G l yX10_term cX10_term 2 (some .int) d0 0 0 [.ref 31] n S I J R (rk_qi v9 n S I9 J9 R True)) (hr5 : ∀ (n : Nat) (S : rk_Sh) (I : rk_I) (J : rk_J) (R : rk_R) (v9 : Int32) (I9 : rk_I) (J9 : rk_J), rk_LM S R → rec 5  I J = some (v9, I9, J9) → CW G l yX10_one cX10_one 2 (some .int) d0 0 0 [.ref 31] n S I J R (rk_qi v9 n S I9 J9 R True)) (hd : 2 ≤ d) (hM : rk_LM S R) (hf : f_X10_added_j39 rec I J j1 t0 = some r) (hc : ∀ (w0 : Int32) (I9 : rk_I) (J9 : rk_J), r = .inl (w0, I9, J9) → AW G l yX10_added cX10_added 4 (some .int) d kc ks 5 [some (.ref 31), some (.int w0), none, none] [] n S I9 J9 R Q) (he : ∀ (w0 : Int32) (I9 : rk_I) (J9 : rk_J), r = .inr (w0, I9, J9) → AW G l yX10_added cX10_added 4 (some .int) d kc ks 66 [some (.ref 31), some (.int w0), none, none] [] n S I9 J9 R Q) :
    AW G l yX10_added cX10_added 4 (some .int) d kc ks 39 [some (.ref 31), some (.int j1), none, none] [.int t0] n S I J R Q := by
  unfold f_X10_added_j39 at hf
  refine AW_istore_n2 dX10_added_39 (by decide) rfl ?_
  refine AW_aload_n0 dX10_added_40 ?_
  replace hf := rk_bd2 hf
  obtain ⟨I1, J1, e1, hf⟩ := hf
  refine AW_iV0vz (w_X10_next (d := 1) (Nat.le_refl _) hM e1) dX10_added_41 kl_X10_229 (hM.1 31 (by decide) (by decide)) rfl (Nat.le_trans (by decide) hd) (by decide) (Nat.le_of_ble_eq_true rfl) (fun _ => ?_)
  refine AW_aload_n0 dX10_added_44 ?_
  replace hf := rk_bd3 hf
  obtain ⟨x1, I2, J2, e2, hf⟩ := hf
  refine AW_iV0iz (hr4 _ _ _ _ _  _ _ _ hM e2) dX10_added_45 kl_X10_273 (hM.1 31 (by decide) (by decide)) rfl hd0 (by decide) (Nat.le_of_ble_eq_true rfl) (fun _ => ?_)
  refine AW_istore_n3 dX10_added_48 (by decide) rfl ?_
  refine AW_iload_n2 dX10_added_49 ?_
  refine AW_if_eq 59 dX10_added_50 (by decide) (fun h1 => ?_) (fun h1 => ?_)
  · replace hf := rk_it hf h1
    refine AW_iload_n1 dX10_added_59 ?_
    refine AW_iload_n3 dX10_added_60 ?_
    refine AW_isub dX10_added_61 ?_
    refine AW_istore_n1 dX10_added_62 (by decide) rfl ?_
    refine AW_goto 5 dX10_added_63 (by decide) ?_
    refine AW_sb (rk_sbs (rk_sbs (rk_sbn (rk_sbn rk_sb0)))) ?_
    exact hc _ _ _ (Option.some.inj hf).symm
  · replace hf := rk_if hf h1
    refine AW_iload_n1 dX10_added_53 ?_
    refine AW_iload_n3 dX10_added_54 ?_
    refine AW_iadd dX10_added_55 ?_
    refine AW_goto 62 dX10_added_56 (by decide) ?_
    refine AW_istore_n1 dX10_added_62 (by decide) rfl ?_
    refine AW_goto 5 dX10_added_63 (by decide) ?_
    refine AW_sb (rk_sbs (rk_sbs (rk_sbn (rk_sbn rk_sb0)))) ?_
    exact hc _ _ _ (Option.some.inj hf).symm
noncomputable def f_X10_added_j23 (rec : Nat → rk_I → rk_J → Option (Int32 × rk_I × rk_J)) (I : rk_I) (J : rk_J) (j1 : Int32) : Option ((Int32 × rk_I × rk_J) ⊕ (Int32 × rk_I × rk_J)) :=
if (lg_cmp (J 31 27) 43) = 0 then (
f_X10_added_j39 rec I J j1 1) else (
f_X10_added_j39 rec I J j1 0)
theorem b_X10_added_j23 {G : rk_G} {l : Launch} {d kc ks : Nat} {n : Nat} {S : rk_Sh} {I : rk_I} {J : rk_J} {R : rk_R} {Q : rk_Q} {j1 : Int32} {r : (Int32 × rk_I × rk_J) ⊕ (Int32 × rk_I × rk_J)} {d0 : Nat} {rec : Nat → rk_I → rk_J → Option (Int32 × rk_I × rk_J)} (hd0 : d0 + 1 ≤ d) (hr0 : ∀ (n : Nat) (S : rk_Sh) (I : rk_I) (J : rk_J) (R : rk_R) (v9 : Int32) (I9 : rk_I) (J9 : rk_J), rk_LM S R → rec 0  I J = some (v9, I9, J9) → CW G l yX10_either cX10_either 3 (some .int) d0 0 0 [.ref 31] n S I J R (rk_qi v9 n S I9 J9 R True)) (hr1 : ∀ (n : Nat) (S : rk_Sh) (I : rk_I) (J : rk_J) (R : rk_R) (v9 : Int32) (I9 : rk_I) (J9 : rk_J), rk_LM S R → rec 1  I J = some (v9, I9, J9) → CW G l yX10_both cX10_both 3 (some .int) d0 0 0 [.ref 31] n S I J R (rk_qi v9 n S I9 J9 R True)) (hr2 : ∀ (n : Nat) (S : rk_Sh) (I : rk_I) (J : rk_J) (R : rk_R) (v9 : Int32) (I9 : rk_I) (J9 : rk_J), rk_LM S R → rec 2  I J = some (v9, I9, J9) → CW G l yX10_not cX10_not 4 (some .int) d0 0 0 [.ref 31] n S I J R (rk_qi v9 n S I9 J9 R True)) (hr3 : ∀ (n : Nat) (S : rk_Sh) (I : rk_I) (J : rk_J) (R : rk_R) (v9 : Int32) (I9 : rk_I) (J9 : rk_J), rk_LM S R → rec 3  I J = some (v9, I9, J9) → CW G l yX10_added cX10_added 4 (some .int) d0 0 0 [.ref 31] n S I J R (rk_qi v9 n S I9 J9 R True)) (hr4 : ∀ (n : Nat) (S : rk_Sh) (I : rk_I) (J : rk_J) (R : rk_R) (v9 : Int32) (I9 : rk_I) (J9 : rk_J), rk_LM S R → rec 4  I J = some (v9, I9, J9) → CW G l yX10_term cX10_term 2 (some .int) d0 0 0 [.ref 31] n S I J R (rk_qi v9 n S I9 J9 R True)) (hr5 : ∀ (n : Nat) (S : rk_Sh) (I : rk_I) (J : rk_J) (R : rk_R) (v9 : Int32) (I9 : rk_I) (J9 : rk_J), rk_LM S R → rec 5  I J = some (v9, I9, J9) → CW G l yX10_one cX10_one 2 (some .int) d0 0 0 [.ref 31] n S I J R (rk_qi v9 n S I9 J9 R True)) (hd : 2 ≤ d) (hM : rk_LM S R) (hf : f_X10_added_j23 rec I J j1 = some r) (hc : ∀ (w0 : Int32) (I9 : rk_I) (J9 : rk_J), r = .inl (w0, I9, J9) → AW G l yX10_added cX10_added 4 (some .int) d kc ks 5 [some (.ref 31), some (.int w0), none, none] [] n S I9 J9 R Q) (he : ∀ (w0 : Int32) (I9 : rk_I) (J9 : rk_J), r = .inr (w0, I9, J9) → AW G l yX10_added cX10_added 4 (some .int) d kc ks 66 [some (.ref 31), some (.int w0), none, none] [] n S I9 J9 R Q) :
    AW G l yX10_added cX10_added 4 (some .int) d kc ks 23 [some (.ref 31), some (.int j1), none, none] [] n S I J R Q := by
  unfold f_X10_added_j23 at hf
  refine AW_aload_n0 dX10_added_23 ?_
  refine AW_getJ dX10_added_24 kf_X10_202 rfl (hM.1 31 (by decide) (by decide)) (by decide) ?_
  refine AW_ldc2 dX10_added_27 kv_X10_276 ?_
  refine AW_lcmp dX10_added_30 ?_
  refine AW_if_ne 38 dX10_added_31 (by decide) (fun h1 => ?_) (fun h1 => ?_)
  · replace hf := rk_if hf h1
    refine AW_iconst (v := 0) dX10_added_38 (by decide) ?_
    refine AW_sb (rk_sbs (rk_sbs (rk_sbn (rk_sbn rk_sb0)))) ?_
    exact b_X10_added_j39 hd0 hr0 hr1 hr2 hr3 hr4 hr5 (Nat.le_trans (by decide) hd) hM hf hc he
  · replace hf := rk_it hf h1
    refine AW_iconst (v := 1) dX10_added_34 (by decide) ?_
    refine AW_goto 39 dX10_added_35 (by decide) ?_
    refine AW_sb (rk_sbs (rk_sbs (rk_sbn (rk_sbn rk_sb0)))) ?_
    exact b_X10_added_j39 hd0 hr0 hr1 hr2 hr3 hr4 hr5 (Nat.le_trans (by decide) hd) hM hf hc he
noncomputable def f_X10_added_l5 (rec : Nat → rk_I → rk_J → Option (Int32 × rk_I × rk_J)) (I : rk_I) (J : rk_J) (s1 : Int32) : Option ((Int32 × rk_I × rk_J) ⊕ (Int32 × rk_I × rk_J)) :=
(f_X10_isSign I J 43).bind fun x1 =>
if x1 = 0 then (
(f_X10_isSign I J 45).bind fun x2 =>
if x2 = 0 then (
some (.inr (s1, I, J))) else (
f_X10_added_j23 rec I J s1)) else (
f_X10_added_j23 rec I J s1)
theorem b_X10_added_l5 {G : rk_G} {l : Launch} {d kc ks : Nat} {n : Nat} {S : rk_Sh} {I : rk_I} {J : rk_J} {R : rk_R} {Q : rk_Q} {s1 : Int32} {r : (Int32 × rk_I × rk_J) ⊕ (Int32 × rk_I × rk_J)} {d0 : Nat} {rec : Nat → rk_I → rk_J → Option (Int32 × rk_I × rk_J)} (hd0 : d0 + 1 ≤ d) (hr0 : ∀ (n : Nat) (S : rk_Sh) (I : rk_I) (J : rk_J) (R : rk_R) (v9 : Int32) (I9 : rk_I) (J9 : rk_J), rk_LM S R → rec 0  I J = some (v9, I9, J9) → CW G l yX10_either cX10_either 3 (some .int) d0 0 0 [.ref 31] n S I J R (rk_qi v9 n S I9 J9 R True)) (hr1 : ∀ (n : Nat) (S : rk_Sh) (I : rk_I) (J : rk_J) (R : rk_R) (v9 : Int32) (I9 : rk_I) (J9 : rk_J), rk_LM S R → rec 1  I J = some (v9, I9, J9) → CW G l yX10_both cX10_both 3 (some .int) d0 0 0 [.ref 31] n S I J R (rk_qi v9 n S I9 J9 R True)) (hr2 : ∀ (n : Nat) (S : rk_Sh) (I : rk_I) (J : rk_J) (R : rk_R) (v9 : Int32) (I9 : rk_I) (J9 : rk_J), rk_LM S R → rec 2  I J = some (v9, I9, J9) → CW G l yX10_not cX10_not 4 (some .int) d0 0 0 [.ref 31] n S I J R (rk_qi v9 n S I9 J9 R True)) (hr3 : ∀ (n : Nat) (S : rk_Sh) (I : rk_I) (J : rk_J) (R : rk_R) (v9 : Int32) (I9 : rk_I) (J9 : rk_J), rk_LM S R → rec 3  I J = some (v9, I9, J9) → CW G l yX10_added cX10_added 4 (some .int) d0 0 0 [.ref 31] n S I J R (rk_qi v9 n S I9 J9 R True)) (hr4 : ∀ (n : Nat) (S : rk_Sh) (I : rk_I) (J : rk_J) (R : rk_R) (v9 : Int32) (I9 : rk_I) (J9 : rk_J), rk_LM S R → rec 4  I J = some (v9, I9, J9) → CW G l yX10_term cX10_term 2 (some .int) d0 0 0 [.ref 31] n S I J R (rk_qi v9 n S I9 J9 R True)) (hr5 : ∀ (n : Nat) (S : rk_Sh) (I : rk_I) (J : rk_J) (R : rk_R) (v9 : Int32) (I9 : rk_I) (J9 : rk_J), rk_LM S R → rec 5  I J = some (v9, I9, J9) → CW G l yX10_one cX10_one 2 (some .int) d0 0 0 [.ref 31] n S I J R (rk_qi v9 n S I9 J9 R True)) (hd : 2 ≤ d) (hM : rk_LM S R) (hf : f_X10_added_l5 rec I J s1 = some r) (hc : ∀ (w0 : Int32) (I9 : rk_I) (J9 : rk_J), r = .inl (w0, I9, J9) → AW G l yX10_added cX10_added 4 (some .int) d kc ks 5 [some (.ref 31), some (.int w0), none, none] [] n S I9 J9 R Q) (he : ∀ (w0 : Int32) (I9 : rk_I) (J9 : rk_J), r = .inr (w0, I9, J9) → AW G l yX10_added cX10_added 4 (some .int) d kc ks 66 [some (.ref 31), some (.int w0), none, none] [] n S I9 J9 R Q) :
    AW G l yX10_added cX10_added 4 (some .int) d kc ks 5 [some (.ref 31), some (.int s1), none, none] [] n S I J R Q := by
  unfold f_X10_added_l5 at hf
  refine AW_aload_n0 dX10_added_5 ?_
  refine AW_bipush (v := 43) dX10_added_6 (by decide) ?_
  replace hf := rk_bd hf
  obtain ⟨x1, e1, hf⟩ := hf
  refine AW_iV1iz (w_X10_isSign (d := 0) hM e1) dX10_added_8 kl_X10_257 (hM.1 31 (by decide) (by decide)) rfl (Nat.le_trans (by decide) hd) (by decide) (Nat.le_of_ble_eq_true rfl) (fun _ => ?_)
  refine AW_if_ne 23 dX10_added_11 (by decide) (fun h1 => ?_) (fun h1 => ?_)
  · replace hf := rk_if hf h1
    refine AW_sb (rk_sbs (rk_sbs (rk_sbn (rk_sbn rk_sb0)))) ?_
    exact b_X10_added_j23 hd0 hr0 hr1 hr2 hr3 hr4 hr5 (Nat.le_trans (by decide) hd) hM hf hc he
  · replace hf := rk_it hf h1
    refine AW_aload_n0 dX10_added_14 ?_
    refine AW_bipush (v := 45) dX10_added_15 (by decide) ?_
    replace hf := rk_bd hf
    obtain ⟨x2, e2, hf⟩ := hf
    refine AW_iV1iz (w_X10_isSign (d := 0) hM e2) dX10_added_17 kl_X10_257 (hM.1 31 (by decide) (by decide)) rfl (Nat.le_trans (by decide) hd) (by decide) (Nat.le_of_ble_eq_true rfl) (fun _ => ?_)
    refine AW_if_eq 66 dX10_added_20 (by decide) (fun h2 => ?_) (fun h2 => ?_)
    · replace hf := rk_it hf h2
      refine AW_sb (rk_sbs (rk_sbs (rk_sbn (rk_sbn rk_sb0)))) ?_
      exact he _ _ _ (Option.some.inj hf).symm
    · replace hf := rk_if hf h2
      refine AW_sb (rk_sbs (rk_sbs (rk_sbn (rk_sbn rk_sb0)))) ?_
      exact b_X10_added_j23 hd0 hr0 hr1 hr2 hr3 hr4 hr5 (Nat.le_trans (by decide) hd) hM hf hc he
theorem L_X10_added_w5 {G : rk_G} {l : Launch} {d kc ks : Nat} {n : Nat} {S : rk_Sh} {R : rk_R} {Q : rk_Q}  {r : Int32 × rk_I × rk_J} {d0 : Nat} {rec : Nat → rk_I → rk_J → Option (Int32 × rk_I × rk_J)} (hd0 : d0 + 1 ≤ d) (hr0 : ∀ (n : Nat) (S : rk_Sh) (I : rk_I) (J : rk_J) (R : rk_R) (v9 : Int32) (I9 : rk_I) (J9 : rk_J), rk_LM S R → rec 0  I J = some (v9, I9, J9) → CW G l yX10_either cX10_either 3 (some .int) d0 0 0 [.ref 31] n S I J R (rk_qi v9 n S I9 J9 R True)) (hr1 : ∀ (n : Nat) (S : rk_Sh) (I : rk_I) (J : rk_J) (R : rk_R) (v9 : Int32) (I9 : rk_I) (J9 : rk_J), rk_LM S R → rec 1  I J = some (v9, I9, J9) → CW G l yX10_both cX10_both 3 (some .int) d0 0 0 [.ref 31] n S I J R (rk_qi v9 n S I9 J9 R True)) (hr2 : ∀ (n : Nat) (S : rk_Sh) (I : rk_I) (J : rk_J) (R : rk_R) (v9 : Int32) (I9 : rk_I) (J9 : rk_J), rk_LM S R → rec 2  I J = some (v9, I9, J9) → CW G l yX10_not cX10_not 4 (some .int) d0 0 0 [.ref 31] n S I J R (rk_qi v9 n S I9 J9 R True)) (hr3 : ∀ (n : Nat) (S : rk_Sh) (I : rk_I) (J : rk_J) (R : rk_R) (v9 : Int32) (I9 : rk_I) (J9 : rk_J), rk_LM S R → rec 3  I J = some (v9, I9, J9) → CW G l yX10_added cX10_added 4 (some .int) d0 0 0 [.ref 31] n S I J R (rk_qi v9 n S I9 J9 R True)) (hr4 : ∀ (n : Nat) (S : rk_Sh) (I : rk_I) (J : rk_J) (R : rk_R) (v9 : Int32) (I9 : rk_I) (J9 : rk_J), rk_LM S R → rec 4  I J = some (v9, I9, J9) → CW G l yX10_term cX10_term 2 (some .int) d0 0 0 [.ref 31] n S I J R (rk_qi v9 n S I9 J9 R True)) (hr5 : ∀ (n : Nat) (S : rk_Sh) (I : rk_I) (J : rk_J) (R : rk_R) (v9 : Int32) (I9 : rk_I) (J9 : rk_J), rk_LM S R → rec 5  I J = some (v9, I9, J9) → CW G l yX10_one cX10_one 2 (some .int) d0 0 0 [.ref 31] n S I J R (rk_qi v9 n S I9 J9 R True)) (hd : 2 ≤ d) (hM : rk_LM S R) (he : ∀ (w0 : Int32) (I9 : rk_I) (J9 : rk_J), r = (w0, I9, J9) → AW G l yX10_added cX10_added 4 (some .int) d kc ks 66 [some (.ref 31), some (.int w0), none, none] [] n S I9 J9 R Q) :
    ∀ (m9 : Nat) (s1 : Int32) (I : rk_I) (J : rk_J), rk_loop (fun a9 => f_X10_added_l5 rec a9.2.1 a9.2.2 a9.1) m9 (s1, I, J) = some r → AW G l yX10_added cX10_added 4 (some .int) d kc ks 5 [some (.ref 31), some (.int s1), none, none] [] n S I J R Q := by
  intro m9
  induction m9 with
  | zero => intro s1 I J hf; cases hf
  | succ m9 ih =>
    intro s1 I J hf 
    obtain ⟨r9, hf, hr⟩ := rk_loop_s hf
    exact b_X10_added_l5 hd0 hr0 hr1 hr2 hr3 hr4 hr5 hd hM hf (fun _ _ _ h9 => by subst h9; exact ih _ _ _ hr) (fun _ _ _ h9 => by subst h9; exact he _ _ _ hr.symm)
noncomputable def f_X10_added (rec : Nat → rk_I → rk_J → Option (Int32 × rk_I × rk_J)) (I : rk_I) (J : rk_J)  : Option (Int32 × rk_I × rk_J) :=
rk_b3 (rec 4  I J) fun x1 I1 J1 =>
rk_b3 (rk_while (fun a9 => f_X10_added_l5 rec a9.2.1 a9.2.2 a9.1) (x1, I1, J1)) fun x2 I2 J2 =>
some (x2, I2, J2)
theorem b_X10_added {G : rk_G} {l : Launch} {d kc ks : Nat} {n : Nat} {S : rk_Sh} {I : rk_I} {J : rk_J} {R : rk_R} {Q : rk_Q}  {r : Int32 × rk_I × rk_J} {d0 : Nat} {rec : Nat → rk_I → rk_J → Option (Int32 × rk_I × rk_J)} (hd0 : d0 + 1 ≤ d) (hr0 : ∀ (n : Nat) (S : rk_Sh) (I : rk_I) (J : rk_J) (R : rk_R) (v9 : Int32) (I9 : rk_I) (J9 : rk_J), rk_LM S R → rec 0  I J = some (v9, I9, J9) → CW G l yX10_either cX10_either 3 (some .int) d0 0 0 [.ref 31] n S I J R (rk_qi v9 n S I9 J9 R True)) (hr1 : ∀ (n : Nat) (S : rk_Sh) (I : rk_I) (J : rk_J) (R : rk_R) (v9 : Int32) (I9 : rk_I) (J9 : rk_J), rk_LM S R → rec 1  I J = some (v9, I9, J9) → CW G l yX10_both cX10_both 3 (some .int) d0 0 0 [.ref 31] n S I J R (rk_qi v9 n S I9 J9 R True)) (hr2 : ∀ (n : Nat) (S : rk_Sh) (I : rk_I) (J : rk_J) (R : rk_R) (v9 : Int32) (I9 : rk_I) (J9 : rk_J), rk_LM S R → rec 2  I J = some (v9, I9, J9) → CW G l yX10_not cX10_not 4 (some .int) d0 0 0 [.ref 31] n S I J R (rk_qi v9 n S I9 J9 R True)) (hr3 : ∀ (n : Nat) (S : rk_Sh) (I : rk_I) (J : rk_J) (R : rk_R) (v9 : Int32) (I9 : rk_I) (J9 : rk_J), rk_LM S R → rec 3  I J = some (v9, I9, J9) → CW G l yX10_added cX10_added 4 (some .int) d0 0 0 [.ref 31] n S I J R (rk_qi v9 n S I9 J9 R True)) (hr4 : ∀ (n : Nat) (S : rk_Sh) (I : rk_I) (J : rk_J) (R : rk_R) (v9 : Int32) (I9 : rk_I) (J9 : rk_J), rk_LM S R → rec 4  I J = some (v9, I9, J9) → CW G l yX10_term cX10_term 2 (some .int) d0 0 0 [.ref 31] n S I J R (rk_qi v9 n S I9 J9 R True)) (hr5 : ∀ (n : Nat) (S : rk_Sh) (I : rk_I) (J : rk_J) (R : rk_R) (v9 : Int32) (I9 : rk_I) (J9 : rk_J), rk_LM S R → rec 5  I J = some (v9, I9, J9) → CW G l yX10_one cX10_one 2 (some .int) d0 0 0 [.ref 31] n S I J R (rk_qi v9 n S I9 J9 R True)) (hd : 2 ≤ d) (hM : rk_LM S R) (hf : f_X10_added rec I J = some r) (hq : ∀ (v9 : Int32) (I9 : rk_I) (J9 : rk_J), r = (v9, I9, J9) → Q (some (.int v9)) n S I9 J9 R) :
    AW G l yX10_added cX10_added 4 (some .int) d kc ks 0 [some (.ref 31), none, none, none] [] n S I J R Q := by
  unfold f_X10_added at hf
  refine AW_aload_n0 dX10_added_0 ?_
  replace hf := rk_bd3 hf
  obtain ⟨x1, I1, J1, e1, hf⟩ := hf
  refine AW_iV0iz (hr4 _ _ _ _ _  _ _ _ hM e1) dX10_added_1 kl_X10_273 (hM.1 31 (by decide) (by decide)) rfl hd0 (by decide) (Nat.le_of_ble_eq_true rfl) (fun _ => ?_)
  refine AW_istore_n1 dX10_added_4 (by decide) rfl ?_
  refine AW_sb (rk_sbs (rk_sbs (rk_sbn (rk_sbn rk_sb0)))) ?_
  replace hf := rk_bd3 hf
  obtain ⟨x2, I2, J2, e2, hf⟩ := hf
  obtain ⟨m1, e2⟩ := rk_while_sp e2
  refine L_X10_added_w5 hd0 hr0 hr1 hr2 hr3 hr4 hr5 (Nat.le_trans (by decide) hd) hM ?_ m1 _ _ _ e2
  intro x2 I2 J2 h9
  cases h9
  refine AW_iload_n1 dX10_added_66 ?_
  exact AW_iret dX10_added_67 rfl (hq _ _ _ (Option.some.inj hf).symm)
theorem w_X10_added {G : rk_G} {l : Launch} {d : Nat} {n : Nat} {S : rk_Sh} {I : rk_I} {J : rk_J} {R : rk_R}  {v8 : Int32} {I8 : rk_I} {J8 : rk_J} {d0 : Nat} {rec : Nat → rk_I → rk_J → Option (Int32 × rk_I × rk_J)} (hd0 : d0 + 1 ≤ d) (hr0 : ∀ (n : Nat) (S : rk_Sh) (I : rk_I) (J : rk_J) (R : rk_R) (v9 : Int32) (I9 : rk_I) (J9 : rk_J), rk_LM S R → rec 0  I J = some (v9, I9, J9) → CW G l yX10_either cX10_either 3 (some .int) d0 0 0 [.ref 31] n S I J R (rk_qi v9 n S I9 J9 R True)) (hr1 : ∀ (n : Nat) (S : rk_Sh) (I : rk_I) (J : rk_J) (R : rk_R) (v9 : Int32) (I9 : rk_I) (J9 : rk_J), rk_LM S R → rec 1  I J = some (v9, I9, J9) → CW G l yX10_both cX10_both 3 (some .int) d0 0 0 [.ref 31] n S I J R (rk_qi v9 n S I9 J9 R True)) (hr2 : ∀ (n : Nat) (S : rk_Sh) (I : rk_I) (J : rk_J) (R : rk_R) (v9 : Int32) (I9 : rk_I) (J9 : rk_J), rk_LM S R → rec 2  I J = some (v9, I9, J9) → CW G l yX10_not cX10_not 4 (some .int) d0 0 0 [.ref 31] n S I J R (rk_qi v9 n S I9 J9 R True)) (hr3 : ∀ (n : Nat) (S : rk_Sh) (I : rk_I) (J : rk_J) (R : rk_R) (v9 : Int32) (I9 : rk_I) (J9 : rk_J), rk_LM S R → rec 3  I J = some (v9, I9, J9) → CW G l yX10_added cX10_added 4 (some .int) d0 0 0 [.ref 31] n S I J R (rk_qi v9 n S I9 J9 R True)) (hr4 : ∀ (n : Nat) (S : rk_Sh) (I : rk_I) (J : rk_J) (R : rk_R) (v9 : Int32) (I9 : rk_I) (J9 : rk_J), rk_LM S R → rec 4  I J = some (v9, I9, J9) → CW G l yX10_term cX10_term 2 (some .int) d0 0 0 [.ref 31] n S I J R (rk_qi v9 n S I9 J9 R True)) (hr5 : ∀ (n : Nat) (S : rk_Sh) (I : rk_I) (J : rk_J) (R : rk_R) (v9 : Int32) (I9 : rk_I) (J9 : rk_J), rk_LM S R → rec 5  I J = some (v9, I9, J9) → CW G l yX10_one cX10_one 2 (some .int) d0 0 0 [.ref 31] n S I J R (rk_qi v9 n S I9 J9 R True)) (hd : 2 ≤ d) (hM : rk_LM S R) (hf : f_X10_added rec I J = some (v8, I8, J8)) :
    CW G l yX10_added cX10_added 4 (some .int) d 0 0 [.ref 31] n S I J R (rk_qi v8 n S I8 J8 R True) :=
  CW.of (by decide +kernel) (Nat.le_of_ble_eq_true rfl) (rk_sbs (rk_sbe (rk_sbe (rk_sbe rk_sb0)))) (b_X10_added hd0 hr0 hr1 hr2 hr3 hr4 hr5 hd hM hf (fun v9 I9 J9 h9 => by cases h9; exact ⟨rfl, rfl, rfl, rfl, rfl, rfl, trivial⟩))
noncomputable def f_X10_term_l5 (rec : Nat → rk_I → rk_J → Option (Int32 × rk_I × rk_J)) (I : rk_I) (J : rk_J) (s1 : Int32) : Option ((Int32 × rk_I × rk_J) ⊕ (Int32 × rk_I × rk_J)) :=
(f_X10_isSign I J 42).bind fun x1 =>
if x1 = 0 then (
some (.inr (s1, I, J))) else (
rk_b2 (f_X10_next I J) fun I1 J1 =>
rk_b3 (rec 5  I1 J1) fun x2 I2 J2 =>
some (.inl ((s1 * x2), I2, J2)))
theorem b_X10_term_l5 {G : rk_G} {l : Launch} {d kc ks : Nat} {n : Nat} {S : rk_Sh} {I : rk_I} {J : rk_J} {R : rk_R} {Q : rk_Q} {s1 : Int32} {r : (Int32 × rk_I × rk_J) ⊕ (Int32 × rk_I × rk_J)} {d0 : Nat} {rec : Nat → rk_I → rk_J → Option (Int32 × rk_I × rk_J)} (hd0 : d0 + 1 ≤ d) (hr0 : ∀ (n : Nat) (S : rk_Sh) (I : rk_I) (J : rk_J) (R : rk_R) (v9 : Int32) (I9 : rk_I) (J9 : rk_J), rk_LM S R → rec 0  I J = some (v9, I9, J9) → CW G l yX10_either cX10_either 3 (some .int) d0 0 0 [.ref 31] n S I J R (rk_qi v9 n S I9 J9 R True)) (hr1 : ∀ (n : Nat) (S : rk_Sh) (I : rk_I) (J : rk_J) (R : rk_R) (v9 : Int32) (I9 : rk_I) (J9 : rk_J), rk_LM S R → rec 1  I J = some (v9, I9, J9) → CW G l yX10_both cX10_both 3 (some .int) d0 0 0 [.ref 31] n S I J R (rk_qi v9 n S I9 J9 R True)) (hr2 : ∀ (n : Nat) (S : rk_Sh) (I : rk_I) (J : rk_J) (R : rk_R) (v9 : Int32) (I9 : rk_I) (J9 : rk_J), rk_LM S R → rec 2  I J = some (v9, I9, J9) → CW G l yX10_not cX10_not 4 (some .int) d0 0 0 [.ref 31] n S I J R (rk_qi v9 n S I9 J9 R True)) (hr3 : ∀ (n : Nat) (S : rk_Sh) (I : rk_I) (J : rk_J) (R : rk_R) (v9 : Int32) (I9 : rk_I) (J9 : rk_J), rk_LM S R → rec 3  I J = some (v9, I9, J9) → CW G l yX10_added cX10_added 4 (some .int) d0 0 0 [.ref 31] n S I J R (rk_qi v9 n S I9 J9 R True)) (hr4 : ∀ (n : Nat) (S : rk_Sh) (I : rk_I) (J : rk_J) (R : rk_R) (v9 : Int32) (I9 : rk_I) (J9 : rk_J), rk_LM S R → rec 4  I J = some (v9, I9, J9) → CW G l yX10_term cX10_term 2 (some .int) d0 0 0 [.ref 31] n S I J R (rk_qi v9 n S I9 J9 R True)) (hr5 : ∀ (n : Nat) (S : rk_Sh) (I : rk_I) (J : rk_J) (R : rk_R) (v9 : Int32) (I9 : rk_I) (J9 : rk_J), rk_LM S R → rec 5  I J = some (v9, I9, J9) → CW G l yX10_one cX10_one 2 (some .int) d0 0 0 [.ref 31] n S I J R (rk_qi v9 n S I9 J9 R True)) (hd : 2 ≤ d) (hM : rk_LM S R) (hf : f_X10_term_l5 rec I J s1 = some r) (hc : ∀ (w0 : Int32) (I9 : rk_I) (J9 : rk_J), r = .inl (w0, I9, J9) → AW G l yX10_term cX10_term 2 (some .int) d kc ks 5 [some (.ref 31), some (.int w0)] [] n S I9 J9 R Q) (he : ∀ (w0 : Int32) (I9 : rk_I) (J9 : rk_J), r = .inr (w0, I9, J9) → AW G l yX10_term cX10_term 2 (some .int) d kc ks 28 [some (.ref 31), some (.int w0)] [] n S I9 J9 R Q) :
    AW G l yX10_term cX10_term 2 (some .int) d kc ks 5 [some (.ref 31), some (.int s1)] [] n S I J R Q := by
  unfold f_X10_term_l5 at hf
  refine AW_aload_n0 dX10_term_5 ?_
  refine AW_bipush (v := 42) dX10_term_6 (by decide) ?_
  replace hf := rk_bd hf
  obtain ⟨x1, e1, hf⟩ := hf
  refine AW_iV1iz (w_X10_isSign (d := 0) hM e1) dX10_term_8 kl_X10_257 (hM.1 31 (by decide) (by decide)) rfl (Nat.le_trans (by decide) hd) (by decide) (Nat.le_of_ble_eq_true rfl) (fun _ => ?_)
  refine AW_if_eq 28 dX10_term_11 (by decide) (fun h1 => ?_) (fun h1 => ?_)
  · replace hf := rk_it hf h1
    refine AW_sb (rk_sbs (rk_sbs rk_sb0)) ?_
    exact he _ _ _ (Option.some.inj hf).symm
  · replace hf := rk_if hf h1
    refine AW_aload_n0 dX10_term_14 ?_
    replace hf := rk_bd2 hf
    obtain ⟨I1, J1, e2, hf⟩ := hf
    refine AW_iV0vz (w_X10_next (d := 1) (Nat.le_refl _) hM e2) dX10_term_15 kl_X10_229 (hM.1 31 (by decide) (by decide)) rfl (Nat.le_trans (by decide) hd) (by decide) (Nat.le_of_ble_eq_true rfl) (fun _ => ?_)
    refine AW_iload_n1 dX10_term_18 ?_
    refine AW_aload_n0 dX10_term_19 ?_
    replace hf := rk_bd3 hf
    obtain ⟨x2, I2, J2, e3, hf⟩ := hf
    refine AW_iV0iz (hr5 _ _ _ _ _  _ _ _ hM e3) dX10_term_20 kl_X10_264 (hM.1 31 (by decide) (by decide)) rfl hd0 (by decide) (Nat.le_of_ble_eq_true rfl) (fun _ => ?_)
    refine AW_imul dX10_term_23 ?_
    refine AW_istore_n1 dX10_term_24 (by decide) rfl ?_
    refine AW_goto 5 dX10_term_25 (by decide) ?_
    refine AW_sb (rk_sbs (rk_sbs rk_sb0)) ?_
    exact hc _ _ _ (Option.some.inj hf).symm
theorem L_X10_term_w5 {G : rk_G} {l : Launch} {d kc ks : Nat} {n : Nat} {S : rk_Sh} {R : rk_R} {Q : rk_Q}  {r : Int32 × rk_I × rk_J} {d0 : Nat} {rec : Nat → rk_I → rk_J → Option (Int32 × rk_I × rk_J)} (hd0 : d0 + 1 ≤ d) (hr0 : ∀ (n : Nat) (S : rk_Sh) (I : rk_I) (J : rk_J) (R : rk_R) (v9 : Int32) (I9 : rk_I) (J9 : rk_J), rk_LM S R → rec 0  I J = some (v9, I9, J9) → CW G l yX10_either cX10_either 3 (some .int) d0 0 0 [.ref 31] n S I J R (rk_qi v9 n S I9 J9 R True)) (hr1 : ∀ (n : Nat) (S : rk_Sh) (I : rk_I) (J : rk_J) (R : rk_R) (v9 : Int32) (I9 : rk_I) (J9 : rk_J), rk_LM S R → rec 1  I J = some (v9, I9, J9) → CW G l yX10_both cX10_both 3 (some .int) d0 0 0 [.ref 31] n S I J R (rk_qi v9 n S I9 J9 R True)) (hr2 : ∀ (n : Nat) (S : rk_Sh) (I : rk_I) (J : rk_J) (R : rk_R) (v9 : Int32) (I9 : rk_I) (J9 : rk_J), rk_LM S R → rec 2  I J = some (v9, I9, J9) → CW G l yX10_not cX10_not 4 (some .int) d0 0 0 [.ref 31] n S I J R (rk_qi v9 n S I9 J9 R True)) (hr3 : ∀ (n : Nat) (S : rk_Sh) (I : rk_I) (J : rk_J) (R : rk_R) (v9 : Int32) (I9 : rk_I) (J9 : rk_J), rk_LM S R → rec 3  I J = some (v9, I9, J9) → CW G l yX10_added cX10_added 4 (some .int) d0 0 0 [.ref 31] n S I J R (rk_qi v9 n S I9 J9 R True)) (hr4 : ∀ (n : Nat) (S : rk_Sh) (I : rk_I) (J : rk_J) (R : rk_R) (v9 : Int32) (I9 : rk_I) (J9 : rk_J), rk_LM S R → rec 4  I J = some (v9, I9, J9) → CW G l yX10_term cX10_term 2 (some .int) d0 0 0 [.ref 31] n S I J R (rk_qi v9 n S I9 J9 R True)) (hr5 : ∀ (n : Nat) (S : rk_Sh) (I : rk_I) (J : rk_J) (R : rk_R) (v9 : Int32) (I9 : rk_I) (J9 : rk_J), rk_LM S R → rec 5  I J = some (v9, I9, J9) → CW G l yX10_one cX10_one 2 (some .int) d0 0 0 [.ref 31] n S I J R (rk_qi v9 n S I9 J9 R True)) (hd : 2 ≤ d) (hM : rk_LM S R) (he : ∀ (w0 : Int32) (I9 : rk_I) (J9 : rk_J), r = (w0, I9, J9) → AW G l yX10_term cX10_term 2 (some .int) d kc ks 28 [some (.ref 31), some (.int w0)] [] n S I9 J9 R Q) :
    ∀ (m9 : Nat) (s1 : Int32) (I : rk_I) (J : rk_J), rk_loop (fun a9 => f_X10_term_l5 rec a9.2.1 a9.2.2 a9.1) m9 (s1, I, J) = some r → AW G l yX10_term cX10_term 2 (some .int) d kc ks 5 [some (.ref 31), some (.int s1)] [] n S I J R Q := by
  intro m9
  induction m9 with
  | zero => intro s1 I J hf; cases hf
  | succ m9 ih =>
    intro s1 I J hf 
    obtain ⟨r9, hf, hr⟩ := rk_loop_s hf
    exact b_X10_term_l5 hd0 hr0 hr1 hr2 hr3 hr4 hr5 hd hM hf (fun _ _ _ h9 => by subst h9; exact ih _ _ _ hr) (fun _ _ _ h9 => by subst h9; exact he _ _ _ hr.symm)
noncomputable def f_X10_term (rec : Nat → rk_I → rk_J → Option (Int32 × rk_I × rk_J)) (I : rk_I) (J : rk_J)  : Option (Int32 × rk_I × rk_J) :=
rk_b3 (rec 5  I J) fun x1 I1 J1 =>
rk_b3 (rk_while (fun a9 => f_X10_term_l5 rec a9.2.1 a9.2.2 a9.1) (x1, I1, J1)) fun x2 I2 J2 =>
some (x2, I2, J2)
theorem b_X10_term {G : rk_G} {l : Launch} {d kc ks : Nat} {n : Nat} {S : rk_Sh} {I : rk_I} {J : rk_J} {R : rk_R} {Q : rk_Q}  {r : Int32 × rk_I × rk_J} {d0 : Nat} {rec : Nat → rk_I → rk_J → Option (Int32 × rk_I × rk_J)} (hd0 : d0 + 1 ≤ d) (hr0 : ∀ (n : Nat) (S : rk_Sh) (I : rk_I) (J : rk_J) (R : rk_R) (v9 : Int32) (I9 : rk_I) (J9 : rk_J), rk_LM S R → rec 0  I J = some (v9, I9, J9) → CW G l yX10_either cX10_either 3 (some .int) d0 0 0 [.ref 31] n S I J R (rk_qi v9 n S I9 J9 R True)) (hr1 : ∀ (n : Nat) (S : rk_Sh) (I : rk_I) (J : rk_J) (R : rk_R) (v9 : Int32) (I9 : rk_I) (J9 : rk_J), rk_LM S R → rec 1  I J = some (v9, I9, J9) → CW G l yX10_both cX10_both 3 (some .int) d0 0 0 [.ref 31] n S I J R (rk_qi v9 n S I9 J9 R True)) (hr2 : ∀ (n : Nat) (S : rk_Sh) (I : rk_I) (J : rk_J) (R : rk_R) (v9 : Int32) (I9 : rk_I) (J9 : rk_J), rk_LM S R → rec 2  I J = some (v9, I9, J9) → CW G l yX10_not cX10_not 4 (some .int) d0 0 0 [.ref 31] n S I J R (rk_qi v9 n S I9 J9 R True)) (hr3 : ∀ (n : Nat) (S : rk_Sh) (I : rk_I) (J : rk_J) (R : rk_R) (v9 : Int32) (I9 : rk_I) (J9 : rk_J), rk_LM S R → rec 3  I J = some (v9, I9, J9) → CW G l yX10_added cX10_added 4 (some .int) d0 0 0 [.ref 31] n S I J R (rk_qi v9 n S I9 J9 R True)) (hr4 : ∀ (n : Nat) (S : rk_Sh) (I : rk_I) (J : rk_J) (R : rk_R) (v9 : Int32) (I9 : rk_I) (J9 : rk_J), rk_LM S R → rec 4  I J = some (v9, I9, J9) → CW G l yX10_term cX10_term 2 (some .int) d0 0 0 [.ref 31] n S I J R (rk_qi v9 n S I9 J9 R True)) (hr5 : ∀ (n : Nat) (S : rk_Sh) (I : rk_I) (J : rk_J) (R : rk_R) (v9 : Int32) (I9 : rk_I) (J9 : rk_J), rk_LM S R → rec 5  I J = some (v9, I9, J9) → CW G l yX10_one cX10_one 2 (some .int) d0 0 0 [.ref 31] n S I J R (rk_qi v9 n S I9 J9 R True)) (hd : 2 ≤ d) (hM : rk_LM S R) (hf : f_X10_term rec I J = some r) (hq : ∀ (v9 : Int32) (I9 : rk_I) (J9 : rk_J), r = (v9, I9, J9) → Q (some (.int v9)) n S I9 J9 R) :
    AW G l yX10_term cX10_term 2 (some .int) d kc ks 0 [some (.ref 31), none] [] n S I J R Q := by
  unfold f_X10_term at hf
  refine AW_aload_n0 dX10_term_0 ?_
  replace hf := rk_bd3 hf
  obtain ⟨x1, I1, J1, e1, hf⟩ := hf
  refine AW_iV0iz (hr5 _ _ _ _ _  _ _ _ hM e1) dX10_term_1 kl_X10_264 (hM.1 31 (by decide) (by decide)) rfl hd0 (by decide) (Nat.le_of_ble_eq_true rfl) (fun _ => ?_)
  refine AW_istore_n1 dX10_term_4 (by decide) rfl ?_
  refine AW_sb (rk_sbs (rk_sbs rk_sb0)) ?_
  replace hf := rk_bd3 hf
  obtain ⟨x2, I2, J2, e2, hf⟩ := hf
  obtain ⟨m1, e2⟩ := rk_while_sp e2
  refine L_X10_term_w5 hd0 hr0 hr1 hr2 hr3 hr4 hr5 (Nat.le_trans (by decide) hd) hM ?_ m1 _ _ _ e2
  intro x2 I2 J2 h9
  cases h9
  refine AW_iload_n1 dX10_term_28 ?_
  exact AW_iret dX10_term_29 rfl (hq _ _ _ (Option.some.inj hf).symm)
theorem w_X10_term {G : rk_G} {l : Launch} {d : Nat} {n : Nat} {S : rk_Sh} {I : rk_I} {J : rk_J} {R : rk_R}  {v8 : Int32} {I8 : rk_I} {J8 : rk_J} {d0 : Nat} {rec : Nat → rk_I → rk_J → Option (Int32 × rk_I × rk_J)} (hd0 : d0 + 1 ≤ d) (hr0 : ∀ (n : Nat) (S : rk_Sh) (I : rk_I) (J : rk_J) (R : rk_R) (v9 : Int32) (I9 : rk_I) (J9 : rk_J), rk_LM S R → rec 0  I J = some (v9, I9, J9) → CW G l yX10_either cX10_either 3 (some .int) d0 0 0 [.ref 31] n S I J R (rk_qi v9 n S I9 J9 R True)) (hr1 : ∀ (n : Nat) (S : rk_Sh) (I : rk_I) (J : rk_J) (R : rk_R) (v9 : Int32) (I9 : rk_I) (J9 : rk_J), rk_LM S R → rec 1  I J = some (v9, I9, J9) → CW G l yX10_both cX10_both 3 (some .int) d0 0 0 [.ref 31] n S I J R (rk_qi v9 n S I9 J9 R True)) (hr2 : ∀ (n : Nat) (S : rk_Sh) (I : rk_I) (J : rk_J) (R : rk_R) (v9 : Int32) (I9 : rk_I) (J9 : rk_J), rk_LM S R → rec 2  I J = some (v9, I9, J9) → CW G l yX10_not cX10_not 4 (some .int) d0 0 0 [.ref 31] n S I J R (rk_qi v9 n S I9 J9 R True)) (hr3 : ∀ (n : Nat) (S : rk_Sh) (I : rk_I) (J : rk_J) (R : rk_R) (v9 : Int32) (I9 : rk_I) (J9 : rk_J), rk_LM S R → rec 3  I J = some (v9, I9, J9) → CW G l yX10_added cX10_added 4 (some .int) d0 0 0 [.ref 31] n S I J R (rk_qi v9 n S I9 J9 R True)) (hr4 : ∀ (n : Nat) (S : rk_Sh) (I : rk_I) (J : rk_J) (R : rk_R) (v9 : Int32) (I9 : rk_I) (J9 : rk_J), rk_LM S R → rec 4  I J = some (v9, I9, J9) → CW G l yX10_term cX10_term 2 (some .int) d0 0 0 [.ref 31] n S I J R (rk_qi v9 n S I9 J9 R True)) (hr5 : ∀ (n : Nat) (S : rk_Sh) (I : rk_I) (J : rk_J) (R : rk_R) (v9 : Int32) (I9 : rk_I) (J9 : rk_J), rk_LM S R → rec 5  I J = some (v9, I9, J9) → CW G l yX10_one cX10_one 2 (some .int) d0 0 0 [.ref 31] n S I J R (rk_qi v9 n S I9 J9 R True)) (hd : 2 ≤ d) (hM : rk_LM S R) (hf : f_X10_term rec I J = some (v8, I8, J8)) :
    CW G l yX10_term cX10_term 2 (some .int) d 0 0 [.ref 31] n S I J R (rk_qi v8 n S I8 J8 R True) :=
  CW.of (by decide +kernel) (Nat.le_of_ble_eq_true rfl) (rk_sbs (rk_sbe rk_sb0)) (b_X10_term hd0 hr0 hr1 hr2 hr3 hr4 hr5 hd hM hf (fun v9 I9 J9 h9 => by cases h9; exact ⟨rfl, rfl, rfl, rfl, rfl, rfl, trivial⟩))
noncomputable def f_X10_one_j123 (rec : Nat → rk_I → rk_J → Option (Int32 × rk_I × rk_J)) (I : rk_I) (J : rk_J)  : Option (Int32 × rk_I × rk_J) :=
if (I 31 30) = 0 then (
if (I 31 25) = 1 then (
rk_b2 (f_X10_name I J) fun x1 I3 =>
if (I3 31 30) = 0 then (
rk_b2 (f_X10_next I3 J) fun I4 J1 =>
some (x1, I4, J1)) else (
some (x1, I3, J))) else (
(f_X10_fail I).bind fun I2 =>
some (0, I2, J))) else (
(f_X10_fail I).bind fun I1 =>
some (0, I1, J))
theorem b_X10_one_j123 {G : rk_G} {l : Launch} {d kc ks : Nat} {n : Nat} {S : rk_Sh} {I : rk_I} {J : rk_J} {R : rk_R} {Q : rk_Q}  {r : Int32 × rk_I × rk_J} {d0 : Nat} {rec : Nat → rk_I → rk_J → Option (Int32 × rk_I × rk_J)} (hd0 : d0 + 1 ≤ d) (hr0 : ∀ (n : Nat) (S : rk_Sh) (I : rk_I) (J : rk_J) (R : rk_R) (v9 : Int32) (I9 : rk_I) (J9 : rk_J), rk_LM S R → rec 0  I J = some (v9, I9, J9) → CW G l yX10_either cX10_either 3 (some .int) d0 0 0 [.ref 31] n S I J R (rk_qi v9 n S I9 J9 R True)) (hr1 : ∀ (n : Nat) (S : rk_Sh) (I : rk_I) (J : rk_J) (R : rk_R) (v9 : Int32) (I9 : rk_I) (J9 : rk_J), rk_LM S R → rec 1  I J = some (v9, I9, J9) → CW G l yX10_both cX10_both 3 (some .int) d0 0 0 [.ref 31] n S I J R (rk_qi v9 n S I9 J9 R True)) (hr2 : ∀ (n : Nat) (S : rk_Sh) (I : rk_I) (J : rk_J) (R : rk_R) (v9 : Int32) (I9 : rk_I) (J9 : rk_J), rk_LM S R → rec 2  I J = some (v9, I9, J9) → CW G l yX10_not cX10_not 4 (some .int) d0 0 0 [.ref 31] n S I J R (rk_qi v9 n S I9 J9 R True)) (hr3 : ∀ (n : Nat) (S : rk_Sh) (I : rk_I) (J : rk_J) (R : rk_R) (v9 : Int32) (I9 : rk_I) (J9 : rk_J), rk_LM S R → rec 3  I J = some (v9, I9, J9) → CW G l yX10_added cX10_added 4 (some .int) d0 0 0 [.ref 31] n S I J R (rk_qi v9 n S I9 J9 R True)) (hr4 : ∀ (n : Nat) (S : rk_Sh) (I : rk_I) (J : rk_J) (R : rk_R) (v9 : Int32) (I9 : rk_I) (J9 : rk_J), rk_LM S R → rec 4  I J = some (v9, I9, J9) → CW G l yX10_term cX10_term 2 (some .int) d0 0 0 [.ref 31] n S I J R (rk_qi v9 n S I9 J9 R True)) (hr5 : ∀ (n : Nat) (S : rk_Sh) (I : rk_I) (J : rk_J) (R : rk_R) (v9 : Int32) (I9 : rk_I) (J9 : rk_J), rk_LM S R → rec 5  I J = some (v9, I9, J9) → CW G l yX10_one cX10_one 2 (some .int) d0 0 0 [.ref 31] n S I J R (rk_qi v9 n S I9 J9 R True)) (hd : 3 ≤ d) (hM : rk_LM S R) (hf : f_X10_one_j123 rec I J = some r) (hq : ∀ (v9 : Int32) (I9 : rk_I) (J9 : rk_J), r = (v9, I9, J9) → Q (some (.int v9)) n S I9 J9 R) :
    AW G l yX10_one cX10_one 2 (some .int) d kc ks 123 [some (.ref 31), some (.int 0)] [] n S I J R Q := by
  unfold f_X10_one_j123 at hf
  refine AW_aload_n0 dX10_one_123 ?_
  refine AW_getI dX10_one_124 kf_X10_216 rfl (hM.1 31 (by decide) (by decide)) (by decide) ?_
  refine AW_if_ne 157 dX10_one_127 (by decide) (fun h1 => ?_) (fun h1 => ?_)
  · replace hf := rk_if hf h1
    refine AW_aload_n0 dX10_one_157 ?_
    replace hf := rk_bd hf
    obtain ⟨I1, e1, hf⟩ := hf
    refine AW_iV0vz (w_X10_fail (d := 0) hM e1) dX10_one_158 kl_X10_226 (hM.1 31 (by decide) (by decide)) rfl (Nat.le_trans (by decide) hd) (by decide) (Nat.le_of_ble_eq_true rfl) (fun _ => ?_)
    refine AW_iload_n1 dX10_one_161 ?_
    exact AW_iret dX10_one_162 rfl (hq _ _ _ (Option.some.inj hf).symm)
  · replace hf := rk_it hf h1
    refine AW_aload_n0 dX10_one_130 ?_
    refine AW_getI dX10_one_131 kf_X10_195 rfl (hM.1 31 (by decide) (by decide)) (by decide) ?_
    refine AW_iconst (v := 1) dX10_one_134 (by decide) ?_
    refine AW_icmp_ne 157 dX10_one_135 (by decide) (fun h2 => ?_) (fun h2 => ?_)
    · replace hf := rk_if hf h2
      refine AW_aload_n0 dX10_one_157 ?_
      replace hf := rk_bd hf
      obtain ⟨I2, e2, hf⟩ := hf
      refine AW_iV0vz (w_X10_fail (d := 0) hM e2) dX10_one_158 kl_X10_226 (hM.1 31 (by decide) (by decide)) rfl (Nat.le_trans (by decide) hd) (by decide) (Nat.le_of_ble_eq_true rfl) (fun _ => ?_)
      refine AW_iload_n1 dX10_one_161 ?_
      exact AW_iret dX10_one_162 rfl (hq _ _ _ (Option.some.inj hf).symm)
    · replace hf := rk_it hf h2
      refine AW_aload_n0 dX10_one_138 ?_
      replace hf := rk_bd2 hf
      obtain ⟨x1, I3, e3, hf⟩ := hf
      refine AW_iV0iz (w_X10_name (d := 1) (Nat.le_refl _) hM e3) dX10_one_139 kl_X10_270 (hM.1 31 (by decide) (by decide)) rfl (Nat.le_trans (by decide) hd) (by decide) (Nat.le_of_ble_eq_true rfl) (fun _ => ?_)
      refine AW_istore_n1 dX10_one_142 (by decide) rfl ?_
      refine AW_aload_n0 dX10_one_143 ?_
      refine AW_getI dX10_one_144 kf_X10_216 rfl (hM.1 31 (by decide) (by decide)) (by decide) ?_
      refine AW_if_ne 161 dX10_one_147 (by decide) (fun h3 => ?_) (fun h3 => ?_)
      · replace hf := rk_if hf h3
        refine AW_iload_n1 dX10_one_161 ?_
        exact AW_iret dX10_one_162 rfl (hq _ _ _ (Option.some.inj hf).symm)
      · replace hf := rk_it hf h3
        refine AW_aload_n0 dX10_one_150 ?_
        replace hf := rk_bd2 hf
        obtain ⟨I4, J1, e4, hf⟩ := hf
        refine AW_iV0vz (w_X10_next (d := 1) (Nat.le_refl _) hM e4) dX10_one_151 kl_X10_229 (hM.1 31 (by decide) (by decide)) rfl (Nat.le_trans (by decide) hd) (by decide) (Nat.le_of_ble_eq_true rfl) (fun _ => ?_)
        refine AW_goto 161 dX10_one_154 (by decide) ?_
        refine AW_iload_n1 dX10_one_161 ?_
        exact AW_iret dX10_one_162 rfl (hq _ _ _ (Option.some.inj hf).symm)
noncomputable def f_X10_one_j71 (rec : Nat → rk_I → rk_J → Option (Int32 × rk_I × rk_J)) (I : rk_I) (J : rk_J) (j1 : Int32) : Option (Int32 × rk_I × rk_J) :=
(some (rk_ui I 31 29 ((I 31 29) - 1))).bind fun I1 =>
if (I1 31 30) = 0 then (
rk_b2 (f_X10_next I1 J) fun I2 J1 =>
some (j1, I2, J1)) else (
some (j1, I1, J))
theorem b_X10_one_j71 {G : rk_G} {l : Launch} {d kc ks : Nat} {n : Nat} {S : rk_Sh} {I : rk_I} {J : rk_J} {R : rk_R} {Q : rk_Q} {j1 : Int32} {r : Int32 × rk_I × rk_J} {d0 : Nat} {rec : Nat → rk_I → rk_J → Option (Int32 × rk_I × rk_J)} (hd0 : d0 + 1 ≤ d) (hr0 : ∀ (n : Nat) (S : rk_Sh) (I : rk_I) (J : rk_J) (R : rk_R) (v9 : Int32) (I9 : rk_I) (J9 : rk_J), rk_LM S R → rec 0  I J = some (v9, I9, J9) → CW G l yX10_either cX10_either 3 (some .int) d0 0 0 [.ref 31] n S I J R (rk_qi v9 n S I9 J9 R True)) (hr1 : ∀ (n : Nat) (S : rk_Sh) (I : rk_I) (J : rk_J) (R : rk_R) (v9 : Int32) (I9 : rk_I) (J9 : rk_J), rk_LM S R → rec 1  I J = some (v9, I9, J9) → CW G l yX10_both cX10_both 3 (some .int) d0 0 0 [.ref 31] n S I J R (rk_qi v9 n S I9 J9 R True)) (hr2 : ∀ (n : Nat) (S : rk_Sh) (I : rk_I) (J : rk_J) (R : rk_R) (v9 : Int32) (I9 : rk_I) (J9 : rk_J), rk_LM S R → rec 2  I J = some (v9, I9, J9) → CW G l yX10_not cX10_not 4 (some .int) d0 0 0 [.ref 31] n S I J R (rk_qi v9 n S I9 J9 R True)) (hr3 : ∀ (n : Nat) (S : rk_Sh) (I : rk_I) (J : rk_J) (R : rk_R) (v9 : Int32) (I9 : rk_I) (J9 : rk_J), rk_LM S R → rec 3  I J = some (v9, I9, J9) → CW G l yX10_added cX10_added 4 (some .int) d0 0 0 [.ref 31] n S I J R (rk_qi v9 n S I9 J9 R True)) (hr4 : ∀ (n : Nat) (S : rk_Sh) (I : rk_I) (J : rk_J) (R : rk_R) (v9 : Int32) (I9 : rk_I) (J9 : rk_J), rk_LM S R → rec 4  I J = some (v9, I9, J9) → CW G l yX10_term cX10_term 2 (some .int) d0 0 0 [.ref 31] n S I J R (rk_qi v9 n S I9 J9 R True)) (hr5 : ∀ (n : Nat) (S : rk_Sh) (I : rk_I) (J : rk_J) (R : rk_R) (v9 : Int32) (I9 : rk_I) (J9 : rk_J), rk_LM S R → rec 5  I J = some (v9, I9, J9) → CW G l yX10_one cX10_one 2 (some .int) d0 0 0 [.ref 31] n S I J R (rk_qi v9 n S I9 J9 R True)) (hd : 3 ≤ d) (hM : rk_LM S R) (hf : f_X10_one_j71 rec I J j1 = some r) (hq : ∀ (v9 : Int32) (I9 : rk_I) (J9 : rk_J), r = (v9, I9, J9) → Q (some (.int v9)) n S I9 J9 R) :
    AW G l yX10_one cX10_one 2 (some .int) d kc ks 71 [some (.ref 31), some (.int j1)] [] n S I J R Q := by
  unfold f_X10_one_j71 at hf
  refine AW_aload_n0 dX10_one_71 ?_
  refine AW_dup dX10_one_72 rfl ?_
  refine AW_getI dX10_one_73 kf_X10_223 rfl (hM.1 31 (by decide) (by decide)) (by decide) ?_
  refine AW_iconst (v := 1) dX10_one_76 (by decide) ?_
  refine AW_isub dX10_one_77 ?_
  replace hf := rk_bd hf
  obtain ⟨I1, e1, hf⟩ := hf
  refine AW_puI dX10_one_78 kf_X10_223 rfl (hM.1 31 (by decide) (by decide)) (by decide) e1 ?_
  refine AW_aload_n0 dX10_one_81 ?_
  refine AW_getI dX10_one_82 kf_X10_216 rfl (hM.1 31 (by decide) (by decide)) (by decide) ?_
  refine AW_if_ne 161 dX10_one_85 (by decide) (fun h1 => ?_) (fun h1 => ?_)
  · replace hf := rk_if hf h1
    refine AW_iload_n1 dX10_one_161 ?_
    exact AW_iret dX10_one_162 rfl (hq _ _ _ (Option.some.inj hf).symm)
  · replace hf := rk_it hf h1
    refine AW_aload_n0 dX10_one_88 ?_
    replace hf := rk_bd2 hf
    obtain ⟨I2, J1, e2, hf⟩ := hf
    refine AW_iV0vz (w_X10_next (d := 1) (Nat.le_refl _) hM e2) dX10_one_89 kl_X10_229 (hM.1 31 (by decide) (by decide)) rfl (Nat.le_trans (by decide) hd) (by decide) (Nat.le_of_ble_eq_true rfl) (fun _ => ?_)
    refine AW_goto 161 dX10_one_92 (by decide) ?_
    refine AW_iload_n1 dX10_one_161 ?_
    exact AW_iret dX10_one_162 rfl (hq _ _ _ (Option.some.inj hf).symm)
noncomputable def f_X10_one (rec : Nat → rk_I → rk_J → Option (Int32 × rk_I × rk_J)) (I : rk_I) (J : rk_J)  : Option (Int32 × rk_I × rk_J) :=
(f_X10_isSign I J 45).bind fun x1 =>
if x1 = 0 then (
(f_X10_isSign I J 40).bind fun x2 =>
if x2 = 0 then (
if (I 31 30) = 0 then (
if (I 31 25) = 2 then (
rk_b2 (f_X10_next I J) fun I1 J1 =>
some ((Int64.toInt32 (J 31 27)), I1, J1)) else (
f_X10_one_j123 rec I J)) else (
f_X10_one_j123 rec I J)) else (
rk_b3 (f_X10_opens I J) fun x3 I2 J2 =>
if x3 = 0 then (
some (0, I2, J2)) else (
rk_b3 (rec 0  I2 J2) fun x4 I3 J3 =>
(f_X10_isSign I3 J3 41).bind fun x5 =>
if x5 = 0 then (
(f_X10_fail I3).bind fun I4 =>
f_X10_one_j71 rec I4 J3 x4) else (
f_X10_one_j71 rec I3 J3 x4)))) else (
rk_b3 (f_X10_opens I J) fun x6 I5 J4 =>
if x6 = 0 then (
some (0, I5, J4)) else (
rk_b3 (rec 5  I5 J4) fun x7 I6 J5 =>
(some (rk_ui I6 31 29 ((I6 31 29) - 1))).bind fun I7 =>
some ((-x7), I7, J5)))
theorem b_X10_one {G : rk_G} {l : Launch} {d kc ks : Nat} {n : Nat} {S : rk_Sh} {I : rk_I} {J : rk_J} {R : rk_R} {Q : rk_Q}  {r : Int32 × rk_I × rk_J} {d0 : Nat} {rec : Nat → rk_I → rk_J → Option (Int32 × rk_I × rk_J)} (hd0 : d0 + 1 ≤ d) (hr0 : ∀ (n : Nat) (S : rk_Sh) (I : rk_I) (J : rk_J) (R : rk_R) (v9 : Int32) (I9 : rk_I) (J9 : rk_J), rk_LM S R → rec 0  I J = some (v9, I9, J9) → CW G l yX10_either cX10_either 3 (some .int) d0 0 0 [.ref 31] n S I J R (rk_qi v9 n S I9 J9 R True)) (hr1 : ∀ (n : Nat) (S : rk_Sh) (I : rk_I) (J : rk_J) (R : rk_R) (v9 : Int32) (I9 : rk_I) (J9 : rk_J), rk_LM S R → rec 1  I J = some (v9, I9, J9) → CW G l yX10_both cX10_both 3 (some .int) d0 0 0 [.ref 31] n S I J R (rk_qi v9 n S I9 J9 R True)) (hr2 : ∀ (n : Nat) (S : rk_Sh) (I : rk_I) (J : rk_J) (R : rk_R) (v9 : Int32) (I9 : rk_I) (J9 : rk_J), rk_LM S R → rec 2  I J = some (v9, I9, J9) → CW G l yX10_not cX10_not 4 (some .int) d0 0 0 [.ref 31] n S I J R (rk_qi v9 n S I9 J9 R True)) (hr3 : ∀ (n : Nat) (S : rk_Sh) (I : rk_I) (J : rk_J) (R : rk_R) (v9 : Int32) (I9 : rk_I) (J9 : rk_J), rk_LM S R → rec 3  I J = some (v9, I9, J9) → CW G l yX10_added cX10_added 4 (some .int) d0 0 0 [.ref 31] n S I J R (rk_qi v9 n S I9 J9 R True)) (hr4 : ∀ (n : Nat) (S : rk_Sh) (I : rk_I) (J : rk_J) (R : rk_R) (v9 : Int32) (I9 : rk_I) (J9 : rk_J), rk_LM S R → rec 4  I J = some (v9, I9, J9) → CW G l yX10_term cX10_term 2 (some .int) d0 0 0 [.ref 31] n S I J R (rk_qi v9 n S I9 J9 R True)) (hr5 : ∀ (n : Nat) (S : rk_Sh) (I : rk_I) (J : rk_J) (R : rk_R) (v9 : Int32) (I9 : rk_I) (J9 : rk_J), rk_LM S R → rec 5  I J = some (v9, I9, J9) → CW G l yX10_one cX10_one 2 (some .int) d0 0 0 [.ref 31] n S I J R (rk_qi v9 n S I9 J9 R True)) (hd : 3 ≤ d) (hM : rk_LM S R) (hf : f_X10_one rec I J = some r) (hq : ∀ (v9 : Int32) (I9 : rk_I) (J9 : rk_J), r = (v9, I9, J9) → Q (some (.int v9)) n S I9 J9 R) :
    AW G l yX10_one cX10_one 2 (some .int) d kc ks 0 [some (.ref 31), none] [] n S I J R Q := by
  unfold f_X10_one at hf
  refine AW_iconst (v := 0) dX10_one_0 (by decide) ?_
  refine AW_istore_n1 dX10_one_1 (by decide) rfl ?_
  refine AW_aload_n0 dX10_one_2 ?_
  refine AW_bipush (v := 45) dX10_one_3 (by decide) ?_
  replace hf := rk_bd hf
  obtain ⟨x1, e1, hf⟩ := hf
  refine AW_iV1iz (w_X10_isSign (d := 0) hM e1) dX10_one_5 kl_X10_257 (hM.1 31 (by decide) (by decide)) rfl (Nat.le_trans (by decide) hd) (by decide) (Nat.le_of_ble_eq_true rfl) (fun _ => ?_)
  refine AW_if_eq 37 dX10_one_8 (by decide) (fun h1 => ?_) (fun h1 => ?_)
  · replace hf := rk_it hf h1
    refine AW_aload_n0 dX10_one_37 ?_
    refine AW_bipush (v := 40) dX10_one_38 (by decide) ?_
    replace hf := rk_bd hf
    obtain ⟨x2, e2, hf⟩ := hf
    refine AW_iV1iz (w_X10_isSign (d := 0) hM e2) dX10_one_40 kl_X10_257 (hM.1 31 (by decide) (by decide)) rfl (Nat.le_trans (by decide) hd) (by decide) (Nat.le_of_ble_eq_true rfl) (fun _ => ?_)
    refine AW_if_eq 95 dX10_one_43 (by decide) (fun h2 => ?_) (fun h2 => ?_)
    · replace hf := rk_it hf h2
      refine AW_aload_n0 dX10_one_95 ?_
      refine AW_getI dX10_one_96 kf_X10_216 rfl (hM.1 31 (by decide) (by decide)) (by decide) ?_
      refine AW_if_ne 123 dX10_one_99 (by decide) (fun h3 => ?_) (fun h3 => ?_)
      · replace hf := rk_if hf h3
        refine AW_sb (rk_sbs (rk_sbs rk_sb0)) ?_
        exact b_X10_one_j123 hd0 hr0 hr1 hr2 hr3 hr4 hr5 (Nat.le_trans (by decide) hd) hM hf hq
      · replace hf := rk_it hf h3
        refine AW_aload_n0 dX10_one_102 ?_
        refine AW_getI dX10_one_103 kf_X10_195 rfl (hM.1 31 (by decide) (by decide)) (by decide) ?_
        refine AW_iconst (v := 2) dX10_one_106 (by decide) ?_
        refine AW_icmp_ne 123 dX10_one_107 (by decide) (fun h4 => ?_) (fun h4 => ?_)
        · replace hf := rk_if hf h4
          refine AW_sb (rk_sbs (rk_sbs rk_sb0)) ?_
          exact b_X10_one_j123 hd0 hr0 hr1 hr2 hr3 hr4 hr5 (Nat.le_trans (by decide) hd) hM hf hq
        · replace hf := rk_it hf h4
          refine AW_aload_n0 dX10_one_110 ?_
          refine AW_getJ dX10_one_111 kf_X10_202 rfl (hM.1 31 (by decide) (by decide)) (by decide) ?_
          refine AW_l2i dX10_one_114 ?_
          refine AW_istore_n1 dX10_one_115 (by decide) rfl ?_
          refine AW_aload_n0 dX10_one_116 ?_
          replace hf := rk_bd2 hf
          obtain ⟨I1, J1, e3, hf⟩ := hf
          refine AW_iV0vz (w_X10_next (d := 1) (Nat.le_refl _) hM e3) dX10_one_117 kl_X10_229 (hM.1 31 (by decide) (by decide)) rfl (Nat.le_trans (by decide) hd) (by decide) (Nat.le_of_ble_eq_true rfl) (fun _ => ?_)
          refine AW_goto 161 dX10_one_120 (by decide) ?_
          refine AW_iload_n1 dX10_one_161 ?_
          exact AW_iret dX10_one_162 rfl (hq _ _ _ (Option.some.inj hf).symm)
    · replace hf := rk_if hf h2
      refine AW_aload_n0 dX10_one_46 ?_
      replace hf := rk_bd3 hf
      obtain ⟨x3, I2, J2, e4, hf⟩ := hf
      refine AW_iV0iz (w_X10_opens (d := 2) (Nat.le_refl _) hM e4) dX10_one_47 kl_X10_260 (hM.1 31 (by decide) (by decide)) rfl (Nat.le_trans (by decide) hd) (by decide) (Nat.le_of_ble_eq_true rfl) (fun _ => ?_)
      refine AW_if_eq 161 dX10_one_50 (by decide) (fun h5 => ?_) (fun h5 => ?_)
      · replace hf := rk_it hf h5
        refine AW_iload_n1 dX10_one_161 ?_
        exact AW_iret dX10_one_162 rfl (hq _ _ _ (Option.some.inj hf).symm)
      · replace hf := rk_if hf h5
        refine AW_aload_n0 dX10_one_53 ?_
        replace hf := rk_bd3 hf
        obtain ⟨x4, I3, J3, e5, hf⟩ := hf
        refine AW_iV0iz (hr0 _ _ _ _ _  _ _ _ hM e5) dX10_one_54 kl_X10_267 (hM.1 31 (by decide) (by decide)) rfl hd0 (by decide) (Nat.le_of_ble_eq_true rfl) (fun _ => ?_)
        refine AW_istore_n1 dX10_one_57 (by decide) rfl ?_
        refine AW_aload_n0 dX10_one_58 ?_
        refine AW_bipush (v := 41) dX10_one_59 (by decide) ?_
        replace hf := rk_bd hf
        obtain ⟨x5, e6, hf⟩ := hf
        refine AW_iV1iz (w_X10_isSign (d := 0) hM e6) dX10_one_61 kl_X10_257 (hM.1 31 (by decide) (by decide)) rfl (Nat.le_trans (by decide) hd) (by decide) (Nat.le_of_ble_eq_true rfl) (fun _ => ?_)
        refine AW_if_ne 71 dX10_one_64 (by decide) (fun h6 => ?_) (fun h6 => ?_)
        · replace hf := rk_if hf h6
          refine AW_sb (rk_sbs (rk_sbs rk_sb0)) ?_
          exact b_X10_one_j71 hd0 hr0 hr1 hr2 hr3 hr4 hr5 (Nat.le_trans (by decide) hd) hM hf hq
        · replace hf := rk_it hf h6
          refine AW_aload_n0 dX10_one_67 ?_
          replace hf := rk_bd hf
          obtain ⟨I4, e7, hf⟩ := hf
          refine AW_iV0vz (w_X10_fail (d := 0) hM e7) dX10_one_68 kl_X10_226 (hM.1 31 (by decide) (by decide)) rfl (Nat.le_trans (by decide) hd) (by decide) (Nat.le_of_ble_eq_true rfl) (fun _ => ?_)
          refine AW_sb (rk_sbs (rk_sbs rk_sb0)) ?_
          exact b_X10_one_j71 hd0 hr0 hr1 hr2 hr3 hr4 hr5 (Nat.le_trans (by decide) hd) hM hf hq
  · replace hf := rk_if hf h1
    refine AW_aload_n0 dX10_one_11 ?_
    replace hf := rk_bd3 hf
    obtain ⟨x6, I5, J4, e8, hf⟩ := hf
    refine AW_iV0iz (w_X10_opens (d := 2) (Nat.le_refl _) hM e8) dX10_one_12 kl_X10_260 (hM.1 31 (by decide) (by decide)) rfl (Nat.le_trans (by decide) hd) (by decide) (Nat.le_of_ble_eq_true rfl) (fun _ => ?_)
    refine AW_if_eq 161 dX10_one_15 (by decide) (fun h7 => ?_) (fun h7 => ?_)
    · replace hf := rk_it hf h7
      refine AW_iload_n1 dX10_one_161 ?_
      exact AW_iret dX10_one_162 rfl (hq _ _ _ (Option.some.inj hf).symm)
    · replace hf := rk_if hf h7
      refine AW_aload_n0 dX10_one_18 ?_
      replace hf := rk_bd3 hf
      obtain ⟨x7, I6, J5, e9, hf⟩ := hf
      refine AW_iV0iz (hr5 _ _ _ _ _  _ _ _ hM e9) dX10_one_19 kl_X10_264 (hM.1 31 (by decide) (by decide)) rfl hd0 (by decide) (Nat.le_of_ble_eq_true rfl) (fun _ => ?_)
      refine AW_ineg dX10_one_22 ?_
      refine AW_istore_n1 dX10_one_23 (by decide) rfl ?_
      refine AW_aload_n0 dX10_one_24 ?_
      refine AW_dup dX10_one_25 rfl ?_
      refine AW_getI dX10_one_26 kf_X10_223 rfl (hM.1 31 (by decide) (by decide)) (by decide) ?_
      refine AW_iconst (v := 1) dX10_one_29 (by decide) ?_
      refine AW_isub dX10_one_30 ?_
      replace hf := rk_bd hf
      obtain ⟨I7, e10, hf⟩ := hf
      refine AW_puI dX10_one_31 kf_X10_223 rfl (hM.1 31 (by decide) (by decide)) (by decide) e10 ?_
      refine AW_goto 161 dX10_one_34 (by decide) ?_
      refine AW_iload_n1 dX10_one_161 ?_
      exact AW_iret dX10_one_162 rfl (hq _ _ _ (Option.some.inj hf).symm)
theorem w_X10_one {G : rk_G} {l : Launch} {d : Nat} {n : Nat} {S : rk_Sh} {I : rk_I} {J : rk_J} {R : rk_R}  {v8 : Int32} {I8 : rk_I} {J8 : rk_J} {d0 : Nat} {rec : Nat → rk_I → rk_J → Option (Int32 × rk_I × rk_J)} (hd0 : d0 + 1 ≤ d) (hr0 : ∀ (n : Nat) (S : rk_Sh) (I : rk_I) (J : rk_J) (R : rk_R) (v9 : Int32) (I9 : rk_I) (J9 : rk_J), rk_LM S R → rec 0  I J = some (v9, I9, J9) → CW G l yX10_either cX10_either 3 (some .int) d0 0 0 [.ref 31] n S I J R (rk_qi v9 n S I9 J9 R True)) (hr1 : ∀ (n : Nat) (S : rk_Sh) (I : rk_I) (J : rk_J) (R : rk_R) (v9 : Int32) (I9 : rk_I) (J9 : rk_J), rk_LM S R → rec 1  I J = some (v9, I9, J9) → CW G l yX10_both cX10_both 3 (some .int) d0 0 0 [.ref 31] n S I J R (rk_qi v9 n S I9 J9 R True)) (hr2 : ∀ (n : Nat) (S : rk_Sh) (I : rk_I) (J : rk_J) (R : rk_R) (v9 : Int32) (I9 : rk_I) (J9 : rk_J), rk_LM S R → rec 2  I J = some (v9, I9, J9) → CW G l yX10_not cX10_not 4 (some .int) d0 0 0 [.ref 31] n S I J R (rk_qi v9 n S I9 J9 R True)) (hr3 : ∀ (n : Nat) (S : rk_Sh) (I : rk_I) (J : rk_J) (R : rk_R) (v9 : Int32) (I9 : rk_I) (J9 : rk_J), rk_LM S R → rec 3  I J = some (v9, I9, J9) → CW G l yX10_added cX10_added 4 (some .int) d0 0 0 [.ref 31] n S I J R (rk_qi v9 n S I9 J9 R True)) (hr4 : ∀ (n : Nat) (S : rk_Sh) (I : rk_I) (J : rk_J) (R : rk_R) (v9 : Int32) (I9 : rk_I) (J9 : rk_J), rk_LM S R → rec 4  I J = some (v9, I9, J9) → CW G l yX10_term cX10_term 2 (some .int) d0 0 0 [.ref 31] n S I J R (rk_qi v9 n S I9 J9 R True)) (hr5 : ∀ (n : Nat) (S : rk_Sh) (I : rk_I) (J : rk_J) (R : rk_R) (v9 : Int32) (I9 : rk_I) (J9 : rk_J), rk_LM S R → rec 5  I J = some (v9, I9, J9) → CW G l yX10_one cX10_one 2 (some .int) d0 0 0 [.ref 31] n S I J R (rk_qi v9 n S I9 J9 R True)) (hd : 3 ≤ d) (hM : rk_LM S R) (hf : f_X10_one rec I J = some (v8, I8, J8)) :
    CW G l yX10_one cX10_one 2 (some .int) d 0 0 [.ref 31] n S I J R (rk_qi v8 n S I8 J8 R True) :=
  CW.of (by decide +kernel) (Nat.le_of_ble_eq_true rfl) (rk_sbs (rk_sbe rk_sb0)) (b_X10_one hd0 hr0 hr1 hr2 hr3 hr4 hr5 hd hM hf (fun v9 I9 J9 h9 => by cases h9; exact ⟨rfl, rfl, rfl, rfl, rfl, rfl, trivial⟩))
noncomputable def f_gM : Nat → Nat → rk_I → rk_J → Option (Int32 × rk_I × rk_J)
  | 0, _, _, _ => none
  | k + 1, t, I, J => if t = 0 then f_X10_either (f_gM k) I J else if t = 1 then f_X10_both (f_gM k) I J else if t = 2 then f_X10_not (f_gM k) I J else if t = 3 then f_X10_added (f_gM k) I J else if t = 4 then f_X10_term (f_gM k) I J else f_X10_one (f_gM k) I J
theorem GG_gM {G : rk_G} {l : Launch} : ∀ k : Nat, (∀ (n : Nat) (S : rk_Sh) (I : rk_I) (J : rk_J) (R : rk_R) (v9 : Int32) (I9 : rk_I) (J9 : rk_J), rk_LM S R → f_gM k 0  I J = some (v9, I9, J9) → CW G l yX10_either cX10_either 3 (some .int) (k + 4) 0 0 [.ref 31] n S I J R (rk_qi v9 n S I9 J9 R True)) ∧ (∀ (n : Nat) (S : rk_Sh) (I : rk_I) (J : rk_J) (R : rk_R) (v9 : Int32) (I9 : rk_I) (J9 : rk_J), rk_LM S R → f_gM k 1  I J = some (v9, I9, J9) → CW G l yX10_both cX10_both 3 (some .int) (k + 4) 0 0 [.ref 31] n S I J R (rk_qi v9 n S I9 J9 R True)) ∧ (∀ (n : Nat) (S : rk_Sh) (I : rk_I) (J : rk_J) (R : rk_R) (v9 : Int32) (I9 : rk_I) (J9 : rk_J), rk_LM S R → f_gM k 2  I J = some (v9, I9, J9) → CW G l yX10_not cX10_not 4 (some .int) (k + 4) 0 0 [.ref 31] n S I J R (rk_qi v9 n S I9 J9 R True)) ∧ (∀ (n : Nat) (S : rk_Sh) (I : rk_I) (J : rk_J) (R : rk_R) (v9 : Int32) (I9 : rk_I) (J9 : rk_J), rk_LM S R → f_gM k 3  I J = some (v9, I9, J9) → CW G l yX10_added cX10_added 4 (some .int) (k + 4) 0 0 [.ref 31] n S I J R (rk_qi v9 n S I9 J9 R True)) ∧ (∀ (n : Nat) (S : rk_Sh) (I : rk_I) (J : rk_J) (R : rk_R) (v9 : Int32) (I9 : rk_I) (J9 : rk_J), rk_LM S R → f_gM k 4  I J = some (v9, I9, J9) → CW G l yX10_term cX10_term 2 (some .int) (k + 4) 0 0 [.ref 31] n S I J R (rk_qi v9 n S I9 J9 R True)) ∧ (∀ (n : Nat) (S : rk_Sh) (I : rk_I) (J : rk_J) (R : rk_R) (v9 : Int32) (I9 : rk_I) (J9 : rk_J), rk_LM S R → f_gM k 5  I J = some (v9, I9, J9) → CW G l yX10_one cX10_one 2 (some .int) (k + 4) 0 0 [.ref 31] n S I J R (rk_qi v9 n S I9 J9 R True)) := by
  intro k
  induction k with
  | zero => exact ⟨fun _ _ _ _ _ _ _ _ _ h => (by cases h), fun _ _ _ _ _ _ _ _ _ h => (by cases h), fun _ _ _ _ _ _ _ _ _ h => (by cases h), fun _ _ _ _ _ _ _ _ _ h => (by cases h), fun _ _ _ _ _ _ _ _ _ h => (by cases h), fun _ _ _ _ _ _ _ _ _ h => (by cases h)⟩
  | succ k ih =>
    obtain ⟨hr0, hr1, hr2, hr3, hr4, hr5⟩ := ih
    exact ⟨fun _ _ _ _ _ _ _ _ hL hf => w_X10_either (d0 := k + 4) (rec := f_gM k) (by omega) hr0 hr1 hr2 hr3 hr4 hr5 (by omega) hL hf, fun _ _ _ _ _ _ _ _ hL hf => w_X10_both (d0 := k + 4) (rec := f_gM k) (by omega) hr0 hr1 hr2 hr3 hr4 hr5 (by omega) hL hf, fun _ _ _ _ _ _ _ _ hL hf => w_X10_not (d0 := k + 4) (rec := f_gM k) (by omega) hr0 hr1 hr2 hr3 hr4 hr5 (by omega) hL hf, fun _ _ _ _ _ _ _ _ hL hf => w_X10_added (d0 := k + 4) (rec := f_gM k) (by omega) hr0 hr1 hr2 hr3 hr4 hr5 (by omega) hL hf, fun _ _ _ _ _ _ _ _ hL hf => w_X10_term (d0 := k + 4) (rec := f_gM k) (by omega) hr0 hr1 hr2 hr3 hr4 hr5 (by omega) hL hf, fun _ _ _ _ _ _ _ _ hL hf => w_X10_one (d0 := k + 4) (rec := f_gM k) (by omega) hr0 hr1 hr2 hr3 hr4 hr5 (by omega) hL hf⟩
theorem w_X10_either_g {G : rk_G} {l : Launch} {n : Nat} {S : rk_Sh} {I : rk_I} {J : rk_J} {R : rk_R} {v9 : Int32} {I9 : rk_I} {J9 : rk_J} (hL : rk_LM S R) (hf : f_gM 60 0  I J = some (v9, I9, J9)) : CW G l yX10_either cX10_either 3 (some .int) 64 0 0 [.ref 31] n S I J R (rk_qi v9 n S I9 J9 R True) := (GG_gM 60).1 n S I J R _ _ _ hL hf
theorem w_X10_both_g {G : rk_G} {l : Launch} {n : Nat} {S : rk_Sh} {I : rk_I} {J : rk_J} {R : rk_R} {v9 : Int32} {I9 : rk_I} {J9 : rk_J} (hL : rk_LM S R) (hf : f_gM 60 1  I J = some (v9, I9, J9)) : CW G l yX10_both cX10_both 3 (some .int) 64 0 0 [.ref 31] n S I J R (rk_qi v9 n S I9 J9 R True) := (GG_gM 60).2.1 n S I J R _ _ _ hL hf
theorem w_X10_not_g {G : rk_G} {l : Launch} {n : Nat} {S : rk_Sh} {I : rk_I} {J : rk_J} {R : rk_R} {v9 : Int32} {I9 : rk_I} {J9 : rk_J} (hL : rk_LM S R) (hf : f_gM 60 2  I J = some (v9, I9, J9)) : CW G l yX10_not cX10_not 4 (some .int) 64 0 0 [.ref 31] n S I J R (rk_qi v9 n S I9 J9 R True) := (GG_gM 60).2.2.1 n S I J R _ _ _ hL hf
theorem w_X10_added_g {G : rk_G} {l : Launch} {n : Nat} {S : rk_Sh} {I : rk_I} {J : rk_J} {R : rk_R} {v9 : Int32} {I9 : rk_I} {J9 : rk_J} (hL : rk_LM S R) (hf : f_gM 60 3  I J = some (v9, I9, J9)) : CW G l yX10_added cX10_added 4 (some .int) 64 0 0 [.ref 31] n S I J R (rk_qi v9 n S I9 J9 R True) := (GG_gM 60).2.2.2.1 n S I J R _ _ _ hL hf
theorem w_X10_term_g {G : rk_G} {l : Launch} {n : Nat} {S : rk_Sh} {I : rk_I} {J : rk_J} {R : rk_R} {v9 : Int32} {I9 : rk_I} {J9 : rk_J} (hL : rk_LM S R) (hf : f_gM 60 4  I J = some (v9, I9, J9)) : CW G l yX10_term cX10_term 2 (some .int) 64 0 0 [.ref 31] n S I J R (rk_qi v9 n S I9 J9 R True) := (GG_gM 60).2.2.2.2.1 n S I J R _ _ _ hL hf
theorem w_X10_one_g {G : rk_G} {l : Launch} {n : Nat} {S : rk_Sh} {I : rk_I} {J : rk_J} {R : rk_R} {v9 : Int32} {I9 : rk_I} {J9 : rk_J} (hL : rk_LM S R) (hf : f_gM 60 5  I J = some (v9, I9, J9)) : CW G l yX10_one cX10_one 2 (some .int) 64 0 0 [.ref 31] n S I J R (rk_qi v9 n S I9 J9 R True) := (GG_gM 60).2.2.2.2.2 n S I J R _ _ _ hL hf
noncomputable def f_X10_part_j38 (I : rk_I) (J : rk_J) (t0 : Int32) : Option (Int32 × rk_I × rk_J) :=
(f_X10_isSign I J 59).bind fun x1 =>
if x1 = 0 then (
(f_X10_fail I).bind fun I2 =>
if (I2 31 30) = 0 then (
rk_b2 (f_X10_next I2 J) fun I3 J2 =>
some (t0, I3, J2)) else (
some (t0, I2, J))) else (
if (I 31 30) = 0 then (
rk_b2 (f_X10_next I J) fun I1 J1 =>
some (t0, I1, J1)) else (
some (t0, I, J)))
theorem b_X10_part_j38 {G : rk_G} {l : Launch} {d kc ks : Nat} {n : Nat} {S : rk_Sh} {I : rk_I} {J : rk_J} {R : rk_R} {Q : rk_Q} {t0 : Int32} {r : Int32 × rk_I × rk_J} (hd : 65 ≤ d) (hM : rk_LM S R) (hf : f_X10_part_j38 I J t0 = some r) (hq : ∀ (v9 : Int32) (I9 : rk_I) (J9 : rk_J), r = (v9, I9, J9) → Q (some (.int v9)) n S I9 J9 R) :
    AW G l yX10_part cX10_part 4 (some .int) d kc ks 38 [some (.ref 31), none, none, none] [.int t0] n S I J R Q := by
  unfold f_X10_part_j38 at hf
  refine AW_istore_n3 dX10_part_38 (by decide) rfl ?_
  refine AW_aload_n0 dX10_part_39 ?_
  refine AW_bipush (v := 59) dX10_part_40 (by decide) ?_
  replace hf := rk_bd hf
  obtain ⟨x1, e1, hf⟩ := hf
  refine AW_iV1iz (w_X10_isSign (d := 0) hM e1) dX10_part_42 kl_X10_257 (hM.1 31 (by decide) (by decide)) rfl (Nat.le_trans (by decide) hd) (by decide) (Nat.le_of_ble_eq_true rfl) (fun _ => ?_)
  refine AW_if_ne 52 dX10_part_45 (by decide) (fun h1 => ?_) (fun h1 => ?_)
  · replace hf := rk_if hf h1
    refine AW_aload_n0 dX10_part_52 ?_
    refine AW_getI dX10_part_53 kf_X10_216 rfl (hM.1 31 (by decide) (by decide)) (by decide) ?_
    refine AW_if_ne 63 dX10_part_56 (by decide) (fun h2 => ?_) (fun h2 => ?_)
    · replace hf := rk_if hf h2
      refine AW_iload_n3 dX10_part_63 ?_
      exact AW_iret dX10_part_64 rfl (hq _ _ _ (Option.some.inj hf).symm)
    · replace hf := rk_it hf h2
      refine AW_aload_n0 dX10_part_59 ?_
      replace hf := rk_bd2 hf
      obtain ⟨I1, J1, e2, hf⟩ := hf
      refine AW_iV0vz (w_X10_next (d := 1) (Nat.le_refl _) hM e2) dX10_part_60 kl_X10_229 (hM.1 31 (by decide) (by decide)) rfl (Nat.le_trans (by decide) hd) (by decide) (Nat.le_of_ble_eq_true rfl) (fun _ => ?_)
      refine AW_iload_n3 dX10_part_63 ?_
      exact AW_iret dX10_part_64 rfl (hq _ _ _ (Option.some.inj hf).symm)
  · replace hf := rk_it hf h1
    refine AW_aload_n0 dX10_part_48 ?_
    replace hf := rk_bd hf
    obtain ⟨I2, e3, hf⟩ := hf
    refine AW_iV0vz (w_X10_fail (d := 0) hM e3) dX10_part_49 kl_X10_226 (hM.1 31 (by decide) (by decide)) rfl (Nat.le_trans (by decide) hd) (by decide) (Nat.le_of_ble_eq_true rfl) (fun _ => ?_)
    refine AW_aload_n0 dX10_part_52 ?_
    refine AW_getI dX10_part_53 kf_X10_216 rfl (hM.1 31 (by decide) (by decide)) (by decide) ?_
    refine AW_if_ne 63 dX10_part_56 (by decide) (fun h3 => ?_) (fun h3 => ?_)
    · replace hf := rk_if hf h3
      refine AW_iload_n3 dX10_part_63 ?_
      exact AW_iret dX10_part_64 rfl (hq _ _ _ (Option.some.inj hf).symm)
    · replace hf := rk_it hf h3
      refine AW_aload_n0 dX10_part_59 ?_
      replace hf := rk_bd2 hf
      obtain ⟨I3, J2, e4, hf⟩ := hf
      refine AW_iV0vz (w_X10_next (d := 1) (Nat.le_refl _) hM e4) dX10_part_60 kl_X10_229 (hM.1 31 (by decide) (by decide)) rfl (Nat.le_trans (by decide) hd) (by decide) (Nat.le_of_ble_eq_true rfl) (fun _ => ?_)
      refine AW_iload_n3 dX10_part_63 ?_
      exact AW_iret dX10_part_64 rfl (hq _ _ _ (Option.some.inj hf).symm)
noncomputable def f_X10_part_j23 (I : rk_I) (J : rk_J)  : Option (Int32 × rk_I × rk_J) :=
if (I 31 30) = 0 then (
rk_b3 (f_gM 60 0  I J) fun x1 I1 J1 =>
f_X10_part_j38 I1 J1 x1) else (
f_X10_part_j38 I J 0)
theorem b_X10_part_j23 {G : rk_G} {l : Launch} {d kc ks : Nat} {n : Nat} {S : rk_Sh} {I : rk_I} {J : rk_J} {R : rk_R} {Q : rk_Q}  {r : Int32 × rk_I × rk_J} (hd : 65 ≤ d) (hM : rk_LM S R) (hf : f_X10_part_j23 I J = some r) (hq : ∀ (v9 : Int32) (I9 : rk_I) (J9 : rk_J), r = (v9, I9, J9) → Q (some (.int v9)) n S I9 J9 R) :
    AW G l yX10_part cX10_part 4 (some .int) d kc ks 23 [some (.ref 31), none, none, none] [] n S I J R Q := by
  unfold f_X10_part_j23 at hf
  refine AW_aload_n0 dX10_part_23 ?_
  refine AW_getI dX10_part_24 kf_X10_216 rfl (hM.1 31 (by decide) (by decide)) (by decide) ?_
  refine AW_if_eq 34 dX10_part_27 (by decide) (fun h1 => ?_) (fun h1 => ?_)
  · replace hf := rk_it hf h1
    refine AW_aload_n0 dX10_part_34 ?_
    replace hf := rk_bd3 hf
    obtain ⟨x1, I1, J1, e1, hf⟩ := hf
    refine AW_iV0iz (w_X10_either_g hM e1) dX10_part_35 kl_X10_267 (hM.1 31 (by decide) (by decide)) rfl (Nat.le_trans (by decide) hd) (by decide) (Nat.le_of_ble_eq_true rfl) (fun _ => ?_)
    refine AW_sb (rk_sbs (rk_sbn (rk_sbn (rk_sbn rk_sb0)))) ?_
    exact b_X10_part_j38 (Nat.le_trans (by decide) hd) hM hf hq
  · replace hf := rk_if hf h1
    refine AW_iconst (v := 0) dX10_part_30 (by decide) ?_
    refine AW_goto 38 dX10_part_31 (by decide) ?_
    refine AW_sb (rk_sbs (rk_sbn (rk_sbn (rk_sbn rk_sb0)))) ?_
    exact b_X10_part_j38 (Nat.le_trans (by decide) hd) hM hf hq
noncomputable def f_X10_part_j12 (I : rk_I) (J : rk_J)  : Option (Int32 × rk_I × rk_J) :=
if (I 31 30) = 0 then (
rk_b2 (f_X10_next I J) fun I1 J1 =>
f_X10_part_j23 I1 J1) else (
f_X10_part_j23 I J)
theorem b_X10_part_j12 {G : rk_G} {l : Launch} {d kc ks : Nat} {n : Nat} {S : rk_Sh} {I : rk_I} {J : rk_J} {R : rk_R} {Q : rk_Q}  {r : Int32 × rk_I × rk_J} (hd : 65 ≤ d) (hM : rk_LM S R) (hf : f_X10_part_j12 I J = some r) (hq : ∀ (v9 : Int32) (I9 : rk_I) (J9 : rk_J), r = (v9, I9, J9) → Q (some (.int v9)) n S I9 J9 R) :
    AW G l yX10_part cX10_part 4 (some .int) d kc ks 12 [some (.ref 31), none, none, none] [] n S I J R Q := by
  unfold f_X10_part_j12 at hf
  refine AW_aload_n0 dX10_part_12 ?_
  refine AW_getI dX10_part_13 kf_X10_216 rfl (hM.1 31 (by decide) (by decide)) (by decide) ?_
  refine AW_if_ne 23 dX10_part_16 (by decide) (fun h1 => ?_) (fun h1 => ?_)
  · replace hf := rk_if hf h1
    refine AW_sb (rk_sbs (rk_sbn (rk_sbn (rk_sbn rk_sb0)))) ?_
    exact b_X10_part_j23 (Nat.le_trans (by decide) hd) hM hf hq
  · replace hf := rk_it hf h1
    refine AW_aload_n0 dX10_part_19 ?_
    replace hf := rk_bd2 hf
    obtain ⟨I1, J1, e1, hf⟩ := hf
    refine AW_iV0vz (w_X10_next (d := 1) (Nat.le_refl _) hM e1) dX10_part_20 kl_X10_229 (hM.1 31 (by decide) (by decide)) rfl (Nat.le_trans (by decide) hd) (by decide) (Nat.le_of_ble_eq_true rfl) (fun _ => ?_)
    refine AW_sb (rk_sbs (rk_sbn (rk_sbn (rk_sbn rk_sb0)))) ?_
    exact b_X10_part_j23 (Nat.le_trans (by decide) hd) hM hf hq
noncomputable def f_X10_part (I : rk_I) (J : rk_J) (a1 : Int64) : Option (Int32 × rk_I × rk_J) :=
(f_X10_isWord I J a1).bind fun x1 =>
if x1 = 0 then (
(f_X10_fail I).bind fun I1 =>
f_X10_part_j12 I1 J) else (
f_X10_part_j12 I J)
theorem b_X10_part {G : rk_G} {l : Launch} {d kc ks : Nat} {n : Nat} {S : rk_Sh} {I : rk_I} {J : rk_J} {R : rk_R} {Q : rk_Q} {a1 : Int64} {r : Int32 × rk_I × rk_J} (hd : 65 ≤ d) (hM : rk_LM S R) (hf : f_X10_part I J a1 = some r) (hq : ∀ (v9 : Int32) (I9 : rk_I) (J9 : rk_J), r = (v9, I9, J9) → Q (some (.int v9)) n S I9 J9 R) :
    AW G l yX10_part cX10_part 4 (some .int) d kc ks 0 [some (.ref 31), some (.long a1), none, none] [] n S I J R Q := by
  unfold f_X10_part at hf
  refine AW_aload_n0 dX10_part_0 ?_
  refine AW_lload_n1 dX10_part_1 ?_
  replace hf := rk_bd hf
  obtain ⟨x1, e1, hf⟩ := hf
  refine AW_iV1iz (w_X10_isWord (d := 0) hM e1) dX10_part_2 kl_X10_234 (hM.1 31 (by decide) (by decide)) rfl (Nat.le_trans (by decide) hd) (by decide) (Nat.le_of_ble_eq_true rfl) (fun _ => ?_)
  refine AW_if_ne 12 dX10_part_5 (by decide) (fun h1 => ?_) (fun h1 => ?_)
  · replace hf := rk_if hf h1
    refine AW_sb (rk_sbs (rk_sbn (rk_sbn (rk_sbn rk_sb0)))) ?_
    exact b_X10_part_j12 (Nat.le_trans (by decide) hd) hM hf hq
  · replace hf := rk_it hf h1
    refine AW_aload_n0 dX10_part_8 ?_
    replace hf := rk_bd hf
    obtain ⟨I1, e2, hf⟩ := hf
    refine AW_iV0vz (w_X10_fail (d := 0) hM e2) dX10_part_9 kl_X10_226 (hM.1 31 (by decide) (by decide)) rfl (Nat.le_trans (by decide) hd) (by decide) (Nat.le_of_ble_eq_true rfl) (fun _ => ?_)
    refine AW_sb (rk_sbs (rk_sbn (rk_sbn (rk_sbn rk_sb0)))) ?_
    exact b_X10_part_j12 (Nat.le_trans (by decide) hd) hM hf hq
theorem w_X10_part {G : rk_G} {l : Launch} {d : Nat} {n : Nat} {S : rk_Sh} {I : rk_I} {J : rk_J} {R : rk_R} {a1 : Int64} {v8 : Int32} {I8 : rk_I} {J8 : rk_J} (hd : 65 ≤ d) (hM : rk_LM S R) (hf : f_X10_part I J a1 = some (v8, I8, J8)) :
    CW G l yX10_part cX10_part 4 (some .int) d 0 0 [.ref 31, .long a1] n S I J R (rk_qi v8 n S I8 J8 R True) :=
  CW.of (by decide +kernel) (Nat.le_of_ble_eq_true rfl) (rk_sbs (rk_sbs (rk_sbs (rk_sbe rk_sb0)))) (b_X10_part hd hM hf (fun v9 I9 J9 h9 => by cases h9; exact ⟨rfl, rfl, rfl, rfl, rfl, rfl, trivial⟩))
noncomputable def f_X10_read_j102 (I : rk_I) (J : rk_J) (j4 : Int32) (j5 : Int32) (j6 : Int32) (t0 : Int32) : Option (Int32 × rk_I × rk_J) :=
if (I 31 30) = 0 then (
if (I 31 25) = 0 then (
if j4 = 0 then (
some (j5, I, J)) else (
if j4 = 1 then (
some (j6, I, J)) else (
some (t0, I, J)))) else (
(f_X10_fail I).bind fun I1 =>
if j4 = 0 then (
some (j5, I1, J)) else (
if j4 = 1 then (
some (j6, I1, J)) else (
some (t0, I1, J))))) else (
if j4 = 0 then (
some (j5, I, J)) else (
if j4 = 1 then (
some (j6, I, J)) else (
some (t0, I, J))))
theorem b_X10_read_j102 {G : rk_G} {l : Launch} {d kc ks : Nat} {n : Nat} {S : rk_Sh} {I : rk_I} {J : rk_J} {R : rk_R} {Q : rk_Q} {j4 : Int32} {j5 : Int32} {j6 : Int32} {t0 : Int32} {r : Int32 × rk_I × rk_J} (hd : 66 ≤ d) (hM : rk_LM S R) (hf : f_X10_read_j102 I J j4 j5 j6 t0 = some r) (hq : ∀ (v9 : Int32) (I9 : rk_I) (J9 : rk_J), r = (v9, I9, J9) → Q (some (.int v9)) n S I9 J9 R) :
    AW G l yX10_read cX10_read 8 (some .int) d kc ks 102 [some (.ref 31), none, none, none, some (.int j4), some (.int j5), some (.int j6), none] [.int t0] n S I J R Q := by
  unfold f_X10_read_j102 at hf
  refine AW_istore_7 dX10_read_102 (by decide) rfl ?_
  refine AW_aload_n0 dX10_read_104 ?_
  refine AW_getI dX10_read_105 kf_X10_216 rfl (hM.1 31 (by decide) (by decide)) (by decide) ?_
  refine AW_if_ne 122 dX10_read_108 (by decide) (fun h1 => ?_) (fun h1 => ?_)
  · replace hf := rk_if hf h1
    refine AW_iload_4 dX10_read_122 ?_
    refine AW_if_ne 132 dX10_read_124 (by decide) (fun h2 => ?_) (fun h2 => ?_)
    · replace hf := rk_if hf h2
      refine AW_iload_4 dX10_read_132 ?_
      refine AW_iconst (v := 1) dX10_read_134 (by decide) ?_
      refine AW_icmp_ne 143 dX10_read_135 (by decide) (fun h3 => ?_) (fun h3 => ?_)
      · replace hf := rk_if hf h3
        refine AW_iload_7 dX10_read_143 ?_
        exact AW_iret dX10_read_145 rfl (hq _ _ _ (Option.some.inj hf).symm)
      · replace hf := rk_it hf h3
        refine AW_iload_6 dX10_read_138 ?_
        refine AW_goto 145 dX10_read_140 (by decide) ?_
        exact AW_iret dX10_read_145 rfl (hq _ _ _ (Option.some.inj hf).symm)
    · replace hf := rk_it hf h2
      refine AW_iload_5 dX10_read_127 ?_
      refine AW_goto 145 dX10_read_129 (by decide) ?_
      exact AW_iret dX10_read_145 rfl (hq _ _ _ (Option.some.inj hf).symm)
  · replace hf := rk_it hf h1
    refine AW_aload_n0 dX10_read_111 ?_
    refine AW_getI dX10_read_112 kf_X10_195 rfl (hM.1 31 (by decide) (by decide)) (by decide) ?_
    refine AW_if_eq 122 dX10_read_115 (by decide) (fun h4 => ?_) (fun h4 => ?_)
    · replace hf := rk_it hf h4
      refine AW_iload_4 dX10_read_122 ?_
      refine AW_if_ne 132 dX10_read_124 (by decide) (fun h5 => ?_) (fun h5 => ?_)
      · replace hf := rk_if hf h5
        refine AW_iload_4 dX10_read_132 ?_
        refine AW_iconst (v := 1) dX10_read_134 (by decide) ?_
        refine AW_icmp_ne 143 dX10_read_135 (by decide) (fun h6 => ?_) (fun h6 => ?_)
        · replace hf := rk_if hf h6
          refine AW_iload_7 dX10_read_143 ?_
          exact AW_iret dX10_read_145 rfl (hq _ _ _ (Option.some.inj hf).symm)
        · replace hf := rk_it hf h6
          refine AW_iload_6 dX10_read_138 ?_
          refine AW_goto 145 dX10_read_140 (by decide) ?_
          exact AW_iret dX10_read_145 rfl (hq _ _ _ (Option.some.inj hf).symm)
      · replace hf := rk_it hf h5
        refine AW_iload_5 dX10_read_127 ?_
        refine AW_goto 145 dX10_read_129 (by decide) ?_
        exact AW_iret dX10_read_145 rfl (hq _ _ _ (Option.some.inj hf).symm)
    · replace hf := rk_if hf h4
      refine AW_aload_n0 dX10_read_118 ?_
      replace hf := rk_bd hf
      obtain ⟨I1, e1, hf⟩ := hf
      refine AW_iV0vz (w_X10_fail (d := 0) hM e1) dX10_read_119 kl_X10_226 (hM.1 31 (by decide) (by decide)) rfl (Nat.le_trans (by decide) hd) (by decide) (Nat.le_of_ble_eq_true rfl) (fun _ => ?_)
      refine AW_iload_4 dX10_read_122 ?_
      refine AW_if_ne 132 dX10_read_124 (by decide) (fun h7 => ?_) (fun h7 => ?_)
      · replace hf := rk_if hf h7
        refine AW_iload_4 dX10_read_132 ?_
        refine AW_iconst (v := 1) dX10_read_134 (by decide) ?_
        refine AW_icmp_ne 143 dX10_read_135 (by decide) (fun h8 => ?_) (fun h8 => ?_)
        · replace hf := rk_if hf h8
          refine AW_iload_7 dX10_read_143 ?_
          exact AW_iret dX10_read_145 rfl (hq _ _ _ (Option.some.inj hf).symm)
        · replace hf := rk_it hf h8
          refine AW_iload_6 dX10_read_138 ?_
          refine AW_goto 145 dX10_read_140 (by decide) ?_
          exact AW_iret dX10_read_145 rfl (hq _ _ _ (Option.some.inj hf).symm)
      · replace hf := rk_it hf h7
        refine AW_iload_5 dX10_read_127 ?_
        refine AW_goto 145 dX10_read_129 (by decide) ?_
        exact AW_iret dX10_read_145 rfl (hq _ _ _ (Option.some.inj hf).symm)
noncomputable def f_X10_read_j82 (I : rk_I) (J : rk_J) (j4 : Int32) (j5 : Int32) (t0 : Int32) : Option (Int32 × rk_I × rk_J) :=
if (I 31 30) = 0 then (
rk_b3 (f_X10_part I J 388978) fun x1 I1 J1 =>
f_X10_read_j102 I1 J1 j4 j5 t0 x1) else (
f_X10_read_j102 I J j4 j5 t0 0)
theorem b_X10_read_j82 {G : rk_G} {l : Launch} {d kc ks : Nat} {n : Nat} {S : rk_Sh} {I : rk_I} {J : rk_J} {R : rk_R} {Q : rk_Q} {j4 : Int32} {j5 : Int32} {t0 : Int32} {r : Int32 × rk_I × rk_J} (hd : 66 ≤ d) (hM : rk_LM S R) (hf : f_X10_read_j82 I J j4 j5 t0 = some r) (hq : ∀ (v9 : Int32) (I9 : rk_I) (J9 : rk_J), r = (v9, I9, J9) → Q (some (.int v9)) n S I9 J9 R) :
    AW G l yX10_read cX10_read 8 (some .int) d kc ks 82 [some (.ref 31), none, none, none, some (.int j4), some (.int j5), none, none] [.int t0] n S I J R Q := by
  unfold f_X10_read_j82 at hf
  refine AW_istore_6 dX10_read_82 (by decide) rfl ?_
  refine AW_aload_n0 dX10_read_84 ?_
  refine AW_getI dX10_read_85 kf_X10_216 rfl (hM.1 31 (by decide) (by decide)) (by decide) ?_
  refine AW_if_eq 95 dX10_read_88 (by decide) (fun h1 => ?_) (fun h1 => ?_)
  · replace hf := rk_it hf h1
    refine AW_aload_n0 dX10_read_95 ?_
    refine AW_ldc2 dX10_read_96 kv_X10_303 ?_
    replace hf := rk_bd3 hf
    obtain ⟨x1, I1, J1, e1, hf⟩ := hf
    refine AW_iV1iz (w_X10_part (d := 65) (Nat.le_refl _) hM e1) dX10_read_99 kl_X10_297 (hM.1 31 (by decide) (by decide)) rfl (Nat.le_trans (by decide) hd) (by decide) (Nat.le_of_ble_eq_true rfl) (fun _ => ?_)
    refine AW_sb (rk_sbs (rk_sbn (rk_sbn (rk_sbn (rk_sbs (rk_sbs (rk_sbs (rk_sbn rk_sb0)))))))) ?_
    exact b_X10_read_j102 (Nat.le_trans (by decide) hd) hM hf hq
  · replace hf := rk_if hf h1
    refine AW_iconst (v := 0) dX10_read_91 (by decide) ?_
    refine AW_goto 102 dX10_read_92 (by decide) ?_
    refine AW_sb (rk_sbs (rk_sbn (rk_sbn (rk_sbn (rk_sbs (rk_sbs (rk_sbs (rk_sbn rk_sb0)))))))) ?_
    exact b_X10_read_j102 (Nat.le_trans (by decide) hd) hM hf hq
noncomputable def f_X10_read (I : rk_I) (J : rk_J) (a1 : Int32) (a2 : Int32) (a3 : Int32) (a4 : Int32) : Option (Int32 × rk_I × rk_J) :=
(some (rk_ui I 31 32 a2)).bind fun I1 =>
(rk_rd I1 44 24 a2).bind fun x1 =>
(some (rk_ui I1 31 33 (a3 - x1))).bind fun I2 =>
(some (rk_ui I2 31 23 (160 * a1))).bind fun I3 =>
(rk_rd I3 33 6 a1).bind fun x2 =>
(some (rk_ui I3 31 24 x2)).bind fun I4 =>
(some (rk_ui I4 31 28 0)).bind fun I5 =>
(some (rk_ui I5 31 29 0)).bind fun I6 =>
(some (rk_ui I6 31 30 0)).bind fun I7 =>
rk_b2 (f_X10_next I7 J) fun I8 J1 =>
rk_b3 (f_X10_part I8 J1 237470) fun x3 I9 J2 =>
if (I9 31 30) = 0 then (
rk_b3 (f_X10_part I9 J2 2774) fun x4 I10 J3 =>
f_X10_read_j82 I10 J3 a4 x3 x4) else (
f_X10_read_j82 I9 J2 a4 x3 0)
theorem b_X10_read {G : rk_G} {l : Launch} {d kc ks : Nat} {n : Nat} {S : rk_Sh} {I : rk_I} {J : rk_J} {R : rk_R} {Q : rk_Q} {a1 : Int32} {a2 : Int32} {a3 : Int32} {a4 : Int32} {r : Int32 × rk_I × rk_J} (hd : 66 ≤ d) (hM : rk_LM S R) (hf : f_X10_read I J a1 a2 a3 a4 = some r) (hq : ∀ (v9 : Int32) (I9 : rk_I) (J9 : rk_J), r = (v9, I9, J9) → Q (some (.int v9)) n S I9 J9 R) :
    AW G l yX10_read cX10_read 8 (some .int) d kc ks 0 [some (.ref 31), some (.int a1), some (.int a2), some (.int a3), some (.int a4), none, none, none] [] n S I J R Q := by
  unfold f_X10_read at hf
  refine AW_aload_n0 dX10_read_0 ?_
  refine AW_iload_n2 dX10_read_1 ?_
  replace hf := rk_bd hf
  obtain ⟨I1, e1, hf⟩ := hf
  refine AW_puI dX10_read_2 kf_X10_238 rfl (hM.1 31 (by decide) (by decide)) (by decide) e1 ?_
  refine AW_aload_n0 dX10_read_5 ?_
  refine AW_iload_n3 dX10_read_6 ?_
  refine AW_aload_n0 dX10_read_7 ?_
  refine AW_getR dX10_read_8 kf_X10_50 rfl (hM.1 31 (by decide) (by decide)) (by decide) (hM.2 31 17 44 rfl) ?_
  refine AW_iload_n2 dX10_read_11 ?_
  replace hf := rk_bd hf
  obtain ⟨x1, e2, hf⟩ := hf
  refine AW_rd dX10_read_12 (hM.1 44 (by decide) (by decide)) e2 ?_
  refine AW_isub dX10_read_13 ?_
  replace hf := rk_bd hf
  obtain ⟨I2, e3, hf⟩ := hf
  refine AW_puI dX10_read_14 kf_X10_243 rfl (hM.1 31 (by decide) (by decide)) (by decide) e3 ?_
  refine AW_aload_n0 dX10_read_17 ?_
  refine AW_sipush (v := 160) dX10_read_18 (by decide) ?_
  refine AW_iload_n1 dX10_read_21 ?_
  refine AW_imul dX10_read_22 ?_
  replace hf := rk_bd hf
  obtain ⟨I3, e4, hf⟩ := hf
  refine AW_puI dX10_read_23 kf_X10_182 rfl (hM.1 31 (by decide) (by decide)) (by decide) e4 ?_
  refine AW_aload_n0 dX10_read_26 ?_
  refine AW_aload_n0 dX10_read_27 ?_
  refine AW_getR dX10_read_28 kf_X10_17 rfl (hM.1 31 (by decide) (by decide)) (by decide) (hM.2 31 2 33 rfl) ?_
  refine AW_iload_n1 dX10_read_31 ?_
  replace hf := rk_bd hf
  obtain ⟨x2, e5, hf⟩ := hf
  refine AW_rd dX10_read_32 (hM.1 33 (by decide) (by decide)) e5 ?_
  replace hf := rk_bd hf
  obtain ⟨I4, e6, hf⟩ := hf
  refine AW_puI dX10_read_33 kf_X10_179 rfl (hM.1 31 (by decide) (by decide)) (by decide) e6 ?_
  refine AW_aload_n0 dX10_read_36 ?_
  refine AW_iconst (v := 0) dX10_read_37 (by decide) ?_
  replace hf := rk_bd hf
  obtain ⟨I5, e7, hf⟩ := hf
  refine AW_puI dX10_read_38 kf_X10_185 rfl (hM.1 31 (by decide) (by decide)) (by decide) e7 ?_
  refine AW_aload_n0 dX10_read_41 ?_
  refine AW_iconst (v := 0) dX10_read_42 (by decide) ?_
  replace hf := rk_bd hf
  obtain ⟨I6, e8, hf⟩ := hf
  refine AW_puI dX10_read_43 kf_X10_223 rfl (hM.1 31 (by decide) (by decide)) (by decide) e8 ?_
  refine AW_aload_n0 dX10_read_46 ?_
  refine AW_iconst (v := 0) dX10_read_47 (by decide) ?_
  replace hf := rk_bd hf
  obtain ⟨I7, e9, hf⟩ := hf
  refine AW_puZ dX10_read_48 kf_X10_216 rfl (hM.1 31 (by decide) (by decide)) (by decide) (Or.inl rfl) e9 ?_
  refine AW_aload_n0 dX10_read_51 ?_
  replace hf := rk_bd2 hf
  obtain ⟨I8, J1, e10, hf⟩ := hf
  refine AW_iV0vz (w_X10_next (d := 1) (Nat.le_refl _) hM e10) dX10_read_52 kl_X10_229 (hM.1 31 (by decide) (by decide)) rfl (Nat.le_trans (by decide) hd) (by decide) (Nat.le_of_ble_eq_true rfl) (fun _ => ?_)
  refine AW_aload_n0 dX10_read_55 ?_
  refine AW_ldc2 dX10_read_56 kv_X10_295 ?_
  replace hf := rk_bd3 hf
  obtain ⟨x3, I9, J2, e11, hf⟩ := hf
  refine AW_iV1iz (w_X10_part (d := 65) (Nat.le_refl _) hM e11) dX10_read_59 kl_X10_297 (hM.1 31 (by decide) (by decide)) rfl (Nat.le_trans (by decide) hd) (by decide) (Nat.le_of_ble_eq_true rfl) (fun _ => ?_)
  refine AW_istore_5 dX10_read_62 (by decide) rfl ?_
  refine AW_aload_n0 dX10_read_64 ?_
  refine AW_getI dX10_read_65 kf_X10_216 rfl (hM.1 31 (by decide) (by decide)) (by decide) ?_
  refine AW_if_eq 75 dX10_read_68 (by decide) (fun h1 => ?_) (fun h1 => ?_)
  · replace hf := rk_it hf h1
    refine AW_aload_n0 dX10_read_75 ?_
    refine AW_ldc2 dX10_read_76 kv_X10_301 ?_
    replace hf := rk_bd3 hf
    obtain ⟨x4, I10, J3, e12, hf⟩ := hf
    refine AW_iV1iz (w_X10_part (d := 65) (Nat.le_refl _) hM e12) dX10_read_79 kl_X10_297 (hM.1 31 (by decide) (by decide)) rfl (Nat.le_trans (by decide) hd) (by decide) (Nat.le_of_ble_eq_true rfl) (fun _ => ?_)
    refine AW_sb (rk_sbs (rk_sbn (rk_sbn (rk_sbn (rk_sbs (rk_sbs (rk_sbn (rk_sbn rk_sb0)))))))) ?_
    exact b_X10_read_j82 (Nat.le_trans (by decide) hd) hM hf hq
  · replace hf := rk_if hf h1
    refine AW_iconst (v := 0) dX10_read_71 (by decide) ?_
    refine AW_goto 82 dX10_read_72 (by decide) ?_
    refine AW_sb (rk_sbs (rk_sbn (rk_sbn (rk_sbn (rk_sbs (rk_sbs (rk_sbn (rk_sbn rk_sb0)))))))) ?_
    exact b_X10_read_j82 (Nat.le_trans (by decide) hd) hM hf hq
theorem w_X10_read {G : rk_G} {l : Launch} {d : Nat} {n : Nat} {S : rk_Sh} {I : rk_I} {J : rk_J} {R : rk_R} {a1 : Int32} {a2 : Int32} {a3 : Int32} {a4 : Int32} {v8 : Int32} {I8 : rk_I} {J8 : rk_J} (hd : 66 ≤ d) (hM : rk_LM S R) (hf : f_X10_read I J a1 a2 a3 a4 = some (v8, I8, J8)) :
    CW G l yX10_read cX10_read 8 (some .int) d 0 0 [.ref 31, .int a1, .int a2, .int a3, .int a4] n S I J R (rk_qi v8 n S I8 J8 R True) :=
  CW.of (by decide +kernel) (Nat.le_of_ble_eq_true rfl) (rk_sbs (rk_sbs (rk_sbs (rk_sbs (rk_sbs (rk_sbe (rk_sbe (rk_sbe rk_sb0)))))))) (b_X10_read hd hM hf (fun v9 I9 J9 h9 => by cases h9; exact ⟨rfl, rfl, rfl, rfl, rfl, rfl, trivial⟩))
noncomputable def f_X10_text_l14 (I : rk_I) (J : rk_J) (s1 : Int32) : Option ((Int32 × rk_I) ⊕ (Int32 × rk_I)) :=
if (I 31 6) ≤ s1 then (
some (.inr (s1, I))) else (
(rk_rd I 34 160 s1).bind fun x1 =>
(rk_wr I 32 960 ((160 * (I 31 3)) + s1) x1).bind fun I1 =>
some (.inl ((s1 + 1), I1)))
theorem b_X10_text_l14 {G : rk_G} {l : Launch} {d kc ks : Nat} {n : Nat} {S : rk_Sh} {I : rk_I} {J : rk_J} {R : rk_R} {Q : rk_Q} {s1 : Int32} {r : (Int32 × rk_I) ⊕ (Int32 × rk_I)} (hd : 67 ≤ d) (hM : rk_LM S R) (hf : f_X10_text_l14 I J s1 = some r) (hc : ∀ (w0 : Int32) (I9 : rk_I), r = .inl (w0, I9) → AW G l yX10_text cX10_text 2 (some .int) d kc ks 14 [some (.ref 31), some (.int w0)] [] n S I9 J R Q) (he : ∀ (w0 : Int32) (I9 : rk_I), r = .inr (w0, I9) → AW G l yX10_text cX10_text 2 (some .int) d kc ks 49 [some (.ref 31), some (.int w0)] [] n S I9 J R Q) :
    AW G l yX10_text cX10_text 2 (some .int) d kc ks 14 [some (.ref 31), some (.int s1)] [] n S I J R Q := by
  unfold f_X10_text_l14 at hf
  refine AW_iload_n1 dX10_text_14 ?_
  refine AW_aload_n0 dX10_text_15 ?_
  refine AW_getI dX10_text_16 kf_X10_176 rfl (hM.1 31 (by decide) (by decide)) (by decide) ?_
  refine AW_icmp_ge 49 dX10_text_19 (by decide) (fun h1 => ?_) (fun h1 => ?_)
  · replace hf := rk_it hf h1
    refine AW_sb (rk_sbs (rk_sbs rk_sb0)) ?_
    exact he _ _ (Option.some.inj hf).symm
  · replace hf := rk_if hf h1
    refine AW_aload_n0 dX10_text_22 ?_
    refine AW_getR dX10_text_23 kf_X10_13 rfl (hM.1 31 (by decide) (by decide)) (by decide) (hM.2 31 1 32 rfl) ?_
    refine AW_sipush (v := 160) dX10_text_26 (by decide) ?_
    refine AW_aload_n0 dX10_text_29 ?_
    refine AW_getI dX10_text_30 kf_X10_106 rfl (hM.1 31 (by decide) (by decide)) (by decide) ?_
    refine AW_imul dX10_text_33 ?_
    refine AW_iload_n1 dX10_text_34 ?_
    refine AW_iadd dX10_text_35 ?_
    refine AW_aload_n0 dX10_text_36 ?_
    refine AW_getR dX10_text_37 kf_X10_20 rfl (hM.1 31 (by decide) (by decide)) (by decide) (hM.2 31 5 34 rfl) ?_
    refine AW_iload_n1 dX10_text_40 ?_
    replace hf := rk_bd hf
    obtain ⟨x1, e1, hf⟩ := hf
    refine AW_rd dX10_text_41 (hM.1 34 (by decide) (by decide)) e1 ?_
    replace hf := rk_bd hf
    obtain ⟨I1, e2, hf⟩ := hf
    refine AW_wr dX10_text_42 (hM.1 32 (by decide) (by decide)) e2 ?_
    refine AW_iinc_1 (v := 1) dX10_text_43 (by decide) (by decide) rfl ?_
    refine AW_goto 14 dX10_text_46 (by decide) ?_
    refine AW_sb (rk_sbs (rk_sbs rk_sb0)) ?_
    exact hc _ _ (Option.some.inj hf).symm
theorem L_X10_text_w14 {G : rk_G} {l : Launch} {d kc ks : Nat} {n : Nat} {S : rk_Sh} {J : rk_J} {R : rk_R} {Q : rk_Q}  {r : Int32 × rk_I} (hd : 67 ≤ d) (hM : rk_LM S R) (he : ∀ (w0 : Int32) (I9 : rk_I), r = (w0, I9) → AW G l yX10_text cX10_text 2 (some .int) d kc ks 49 [some (.ref 31), some (.int w0)] [] n S I9 J R Q) :
    ∀ (m9 : Nat) (s1 : Int32) (I : rk_I), rk_loop (fun a9 => f_X10_text_l14 a9.2 J a9.1) m9 (s1, I) = some r → AW G l yX10_text cX10_text 2 (some .int) d kc ks 14 [some (.ref 31), some (.int s1)] [] n S I J R Q := by
  intro m9
  induction m9 with
  | zero => intro s1 I hf; cases hf
  | succ m9 ih =>
    intro s1 I hf 
    obtain ⟨r9, hf, hr⟩ := rk_loop_s hf
    exact b_X10_text_l14 hd hM hf (fun _ _ h9 => by subst h9; exact ih _ _ hr) (fun _ _ h9 => by subst h9; exact he _ _ hr.symm)
noncomputable def f_X10_text (I : rk_I) (J : rk_J)  : Option (Int32 × rk_I × rk_J) :=
if (I 31 3) = 6 then (
some ((-4), I, J)) else (
rk_b2 (rk_while (fun a9 => f_X10_text_l14 a9.2 J a9.1) (0, I)) fun x1 I1 =>
(rk_wr I1 33 6 (I1 31 3) (I1 31 6)).bind fun I2 =>
(some (rk_ui I2 31 6 0)).bind fun I3 =>
rk_b3 (f_X10_read I3 J (I3 31 3) 0 0 0) fun x2 I4 J1 =>
if (I4 31 30) = 0 then (
(some (rk_ui I4 31 3 ((I4 31 3) + 1))).bind fun I5 =>
some (((I5 31 3) - 1), I5, J1)) else (
some (((-100) - (I4 31 31)), I4, J1)))
theorem b_X10_text {G : rk_G} {l : Launch} {d kc ks : Nat} {n : Nat} {S : rk_Sh} {I : rk_I} {J : rk_J} {R : rk_R} {Q : rk_Q}  {r : Int32 × rk_I × rk_J} (hd : 67 ≤ d) (hM : rk_LM S R) (hf : f_X10_text I J = some r) (hq : ∀ (v9 : Int32) (I9 : rk_I) (J9 : rk_J), r = (v9, I9, J9) → Q (some (.int v9)) n S I9 J9 R) :
    AW G l yX10_text cX10_text 2 (some .int) d kc ks 0 [some (.ref 31), none] [] n S I J R Q := by
  unfold f_X10_text at hf
  refine AW_aload_n0 dX10_text_0 ?_
  refine AW_getI dX10_text_1 kf_X10_106 rfl (hM.1 31 (by decide) (by decide)) (by decide) ?_
  refine AW_bipush (v := 6) dX10_text_4 (by decide) ?_
  refine AW_icmp_ne 12 dX10_text_6 (by decide) (fun h1 => ?_) (fun h1 => ?_)
  · replace hf := rk_if hf h1
    refine AW_iconst (v := 0) dX10_text_12 (by decide) ?_
    refine AW_istore_n1 dX10_text_13 (by decide) rfl ?_
    refine AW_sb (rk_sbs (rk_sbs rk_sb0)) ?_
    replace hf := rk_bd2 hf
    obtain ⟨x1, I1, e1, hf⟩ := hf
    obtain ⟨m1, e1⟩ := rk_while_sp e1
    refine L_X10_text_w14 (Nat.le_trans (by decide) hd) hM ?_ m1 _ _ e1
    intro x1 I1 h9
    cases h9
    refine AW_aload_n0 dX10_text_49 ?_
    refine AW_getR dX10_text_50 kf_X10_17 rfl (hM.1 31 (by decide) (by decide)) (by decide) (hM.2 31 2 33 rfl) ?_
    refine AW_aload_n0 dX10_text_53 ?_
    refine AW_getI dX10_text_54 kf_X10_106 rfl (hM.1 31 (by decide) (by decide)) (by decide) ?_
    refine AW_aload_n0 dX10_text_57 ?_
    refine AW_getI dX10_text_58 kf_X10_176 rfl (hM.1 31 (by decide) (by decide)) (by decide) ?_
    replace hf := rk_bd hf
    obtain ⟨I2, e2, hf⟩ := hf
    refine AW_wr dX10_text_61 (hM.1 33 (by decide) (by decide)) e2 ?_
    refine AW_aload_n0 dX10_text_62 ?_
    refine AW_iconst (v := 0) dX10_text_63 (by decide) ?_
    replace hf := rk_bd hf
    obtain ⟨I3, e3, hf⟩ := hf
    refine AW_puI dX10_text_64 kf_X10_176 rfl (hM.1 31 (by decide) (by decide)) (by decide) e3 ?_
    refine AW_aload_n0 dX10_text_67 ?_
    refine AW_aload_n0 dX10_text_68 ?_
    refine AW_getI dX10_text_69 kf_X10_106 rfl (hM.1 31 (by decide) (by decide)) (by decide) ?_
    refine AW_iconst (v := 0) dX10_text_72 (by decide) ?_
    refine AW_iconst (v := 0) dX10_text_73 (by decide) ?_
    refine AW_iconst (v := 0) dX10_text_74 (by decide) ?_
    replace hf := rk_bd3 hf
    obtain ⟨x2, I4, J1, e4, hf⟩ := hf
    refine AW_iV4iz (w_X10_read (d := 66) (Nat.le_refl _) hM e4) dX10_text_75 kl_X10_305 (hM.1 31 (by decide) (by decide)) rfl (Nat.le_trans (by decide) hd) (by decide) (Nat.le_of_ble_eq_true rfl) (fun _ => ?_)
    refine AW_istore_n1 dX10_text_78 (by decide) rfl ?_
    refine AW_aload_n0 dX10_text_79 ?_
    refine AW_getI dX10_text_80 kf_X10_216 rfl (hM.1 31 (by decide) (by decide)) (by decide) ?_
    refine AW_if_eq 94 dX10_text_83 (by decide) (fun h2 => ?_) (fun h2 => ?_)
    · replace hf := rk_it hf h2
      refine AW_aload_n0 dX10_text_94 ?_
      refine AW_dup dX10_text_95 rfl ?_
      refine AW_getI dX10_text_96 kf_X10_106 rfl (hM.1 31 (by decide) (by decide)) (by decide) ?_
      refine AW_iconst (v := 1) dX10_text_99 (by decide) ?_
      refine AW_iadd dX10_text_100 ?_
      replace hf := rk_bd hf
      obtain ⟨I5, e5, hf⟩ := hf
      refine AW_puI dX10_text_101 kf_X10_106 rfl (hM.1 31 (by decide) (by decide)) (by decide) e5 ?_
      refine AW_aload_n0 dX10_text_104 ?_
      refine AW_getI dX10_text_105 kf_X10_106 rfl (hM.1 31 (by decide) (by decide)) (by decide) ?_
      refine AW_iconst (v := 1) dX10_text_108 (by decide) ?_
      refine AW_isub dX10_text_109 ?_
      exact AW_iret dX10_text_110 rfl (hq _ _ _ (Option.some.inj hf).symm)
    · replace hf := rk_if hf h2
      refine AW_bipush (v := (-100)) dX10_text_86 (by decide) ?_
      refine AW_aload_n0 dX10_text_88 ?_
      refine AW_getI dX10_text_89 kf_X10_220 rfl (hM.1 31 (by decide) (by decide)) (by decide) ?_
      refine AW_isub dX10_text_92 ?_
      exact AW_iret dX10_text_93 rfl (hq _ _ _ (Option.some.inj hf).symm)
  · replace hf := rk_it hf h1
    refine AW_bipush (v := (-4)) dX10_text_9 (by decide) ?_
    exact AW_iret dX10_text_11 rfl (hq _ _ _ (Option.some.inj hf).symm)
theorem w_X10_text {G : rk_G} {l : Launch} {d : Nat} {n : Nat} {S : rk_Sh} {I : rk_I} {J : rk_J} {R : rk_R}  {v8 : Int32} {I8 : rk_I} {J8 : rk_J} (hd : 67 ≤ d) (hM : rk_LM S R) (hf : f_X10_text I J = some (v8, I8, J8)) :
    CW G l yX10_text cX10_text 2 (some .int) d 0 0 [.ref 31] n S I J R (rk_qi v8 n S I8 J8 R True) :=
  CW.of (by decide +kernel) (Nat.le_of_ble_eq_true rfl) (rk_sbs (rk_sbe rk_sb0)) (b_X10_text hd hM hf (fun v9 I9 J9 h9 => by cases h9; exact ⟨rfl, rfl, rfl, rfl, rfl, rfl, trivial⟩))
noncomputable def f_X9_force (I : rk_I) (a1 : Int32) : Option (Int32 × rk_I) :=
if a1 < 0 then (
some ((-2), I)) else (
if a1 < (I 0 5) then (
(some (rk_ui I 0 6 a1)).bind fun I1 =>
some ((I 0 6), I1)) else (
some ((-2), I)))
theorem b_X9_force {G : rk_G} {l : Launch} {d kc ks : Nat} {n : Nat} {S : rk_Sh} {I : rk_I} {J : rk_J} {R : rk_R} {Q : rk_Q} {a1 : Int32} {r : Int32 × rk_I} (hL : rk_LC S R) (hf : f_X9_force I a1 = some r) (hq : ∀ (v9 : Int32) (I9 : rk_I), r = (v9, I9) → Q (some (.int v9)) n S I9 J R) :
    AW G l yX9_force cX9_force 3 (some .int) d kc ks 0 [some (.ref 0), some (.int a1), none] [] n S I J R Q := by
  unfold f_X9_force at hf
  refine AW_iload_n1 dX9_force_0 ?_
  refine AW_if_lt 12 dX9_force_1 (by decide) (fun h1 => ?_) (fun h1 => ?_)
  · replace hf := rk_it hf h1
    refine AW_bipush (v := (-2)) dX9_force_12 (by decide) ?_
    exact AW_iret dX9_force_14 rfl (hq _ _ (Option.some.inj hf).symm)
  · replace hf := rk_if hf h1
    refine AW_iload_n1 dX9_force_4 ?_
    refine AW_aload_n0 dX9_force_5 ?_
    refine AW_getI dX9_force_6 kf_X9_89 rfl (hL.1 0 (by decide)) (by decide) ?_
    refine AW_icmp_lt 15 dX9_force_9 (by decide) (fun h2 => ?_) (fun h2 => ?_)
    · replace hf := rk_it hf h2
      refine AW_aload_n0 dX9_force_15 ?_
      refine AW_getI dX9_force_16 kf_X9_195 rfl (hL.1 0 (by decide)) (by decide) ?_
      refine AW_istore_n2 dX9_force_19 (by decide) rfl ?_
      refine AW_aload_n0 dX9_force_20 ?_
      refine AW_iload_n1 dX9_force_21 ?_
      replace hf := rk_bd hf
      obtain ⟨I1, e1, hf⟩ := hf
      refine AW_puI dX9_force_22 kf_X9_195 rfl (hL.1 0 (by decide)) (by decide) e1 ?_
      refine AW_iload_n2 dX9_force_25 ?_
      exact AW_iret dX9_force_26 rfl (hq _ _ (Option.some.inj hf).symm)
    · replace hf := rk_if hf h2
      refine AW_bipush (v := (-2)) dX9_force_12 (by decide) ?_
      exact AW_iret dX9_force_14 rfl (hq _ _ (Option.some.inj hf).symm)
theorem w_X9_force {G : rk_G} {l : Launch} {d : Nat} {n : Nat} {S : rk_Sh} {I : rk_I} {J : rk_J} {R : rk_R} {a1 : Int32} {v8 : Int32} {I8 : rk_I} (hL : rk_LC S R) (hf : f_X9_force I a1 = some (v8, I8)) :
    CW G l yX9_force cX9_force 3 (some .int) d 0 0 [.ref 0, .int a1] n S I J R (rk_qi v8 n S I8 J R True) :=
  CW.of (by decide +kernel) (Nat.le_of_ble_eq_true rfl) (rk_sbs (rk_sbs (rk_sbe rk_sb0))) (b_X9_force hL hf (fun v9 I9 h9 => by cases h9; exact ⟨rfl, rfl, rfl, rfl, rfl, rfl, trivial⟩))
noncomputable def f_X10_force (I : rk_I) (a1 : Int32) : Option (Int32 × rk_I) :=
(f_X10_in a1.toInt64 0 ((I 31 3) - 1).toInt64).bind fun x1 =>
if x1 = 0 then (
some ((-2), I)) else (
(some (rk_ui I 31 4 a1)).bind fun I1 =>
some ((I 31 4), I1))
theorem b_X10_force {G : rk_G} {l : Launch} {d kc ks : Nat} {n : Nat} {S : rk_Sh} {I : rk_I} {J : rk_J} {R : rk_R} {Q : rk_Q} {a1 : Int32} {r : Int32 × rk_I} (hd : 1 ≤ d) (hM : rk_LM S R) (hf : f_X10_force I a1 = some r) (hq : ∀ (v9 : Int32) (I9 : rk_I), r = (v9, I9) → Q (some (.int v9)) n S I9 J R) :
    AW G l yX10_force cX10_force 3 (some .int) d kc ks 0 [some (.ref 31), some (.int a1), none] [] n S I J R Q := by
  unfold f_X10_force at hf
  refine AW_iload_n1 dX10_force_0 ?_
  refine AW_i2l dX10_force_1 ?_
  refine AW_lconst (v := 0) dX10_force_2 (by decide) ?_
  refine AW_aload_n0 dX10_force_3 ?_
  refine AW_getI dX10_force_4 kf_X10_106 rfl (hM.1 31 (by decide) (by decide)) (by decide) ?_
  refine AW_iconst (v := 1) dX10_force_7 (by decide) ?_
  refine AW_isub dX10_force_8 ?_
  refine AW_i2l dX10_force_9 ?_
  replace hf := rk_bd hf
  obtain ⟨x1, e1, hf⟩ := hf
  refine AW_iS3iz (w_X10_in (d := 0) e1) dX10_force_10 kl_X10_114 (Nat.le_trans (by decide) hd) (by decide) (Nat.le_of_ble_eq_true rfl) (fun _ => ?_)
  refine AW_if_ne 19 dX10_force_13 (by decide) (fun h1 => ?_) (fun h1 => ?_)
  · replace hf := rk_if hf h1
    refine AW_aload_n0 dX10_force_19 ?_
    refine AW_getI dX10_force_20 kf_X10_309 rfl (hM.1 31 (by decide) (by decide)) (by decide) ?_
    refine AW_istore_n2 dX10_force_23 (by decide) rfl ?_
    refine AW_aload_n0 dX10_force_24 ?_
    refine AW_iload_n1 dX10_force_25 ?_
    replace hf := rk_bd hf
    obtain ⟨I1, e2, hf⟩ := hf
    refine AW_puI dX10_force_26 kf_X10_309 rfl (hM.1 31 (by decide) (by decide)) (by decide) e2 ?_
    refine AW_iload_n2 dX10_force_29 ?_
    exact AW_iret dX10_force_30 rfl (hq _ _ (Option.some.inj hf).symm)
  · replace hf := rk_it hf h1
    refine AW_bipush (v := (-2)) dX10_force_16 (by decide) ?_
    exact AW_iret dX10_force_18 rfl (hq _ _ (Option.some.inj hf).symm)
theorem w_X10_force {G : rk_G} {l : Launch} {d : Nat} {n : Nat} {S : rk_Sh} {I : rk_I} {J : rk_J} {R : rk_R} {a1 : Int32} {v8 : Int32} {I8 : rk_I} (hd : 1 ≤ d) (hM : rk_LM S R) (hf : f_X10_force I a1 = some (v8, I8)) :
    CW G l yX10_force cX10_force 3 (some .int) d 0 0 [.ref 31, .int a1] n S I J R (rk_qi v8 n S I8 J R True) :=
  CW.of (by decide +kernel) (Nat.le_of_ble_eq_true rfl) (rk_sbs (rk_sbs (rk_sbe rk_sb0))) (b_X10_force hd hM hf (fun v9 I9 h9 => by cases h9; exact ⟨rfl, rfl, rfl, rfl, rfl, rfl, trivial⟩))
noncomputable def f_X7_endOf (S : rk_Sh) (I : rk_I) (R : rk_R) (a0 : Nat) (a1 : Int32) : Option (Int32) :=
(some (R a0 1)).bind fun q1 =>
(q1).bind fun o1 =>
(rk_rdD S I o1 a1).bind fun x1 =>
some x1
theorem b_X7_endOf {G : rk_G} {l : Launch} {d kc ks : Nat} {n : Nat} {S : rk_Sh} {I : rk_I} {J : rk_J} {R : rk_R} {Q : rk_Q} {a0 : Nat} {a1 : Int32} {r : Int32} (hS_a0 : S a0 = (7, 2)) (hf : f_X7_endOf S I R a0 a1 = some r) (hq : ∀ (v9 : Int32), r = v9 → Q (some (.int v9)) n S I J R) :
    AW G l yX7_endOf cX7_endOf 2 (some .int) d kc ks 0 [some (.ref a0), some (.int a1)] [] n S I J R Q := by
  unfold f_X7_endOf at hf
  refine AW_aload_n0 dX7_endOf_0 ?_
  replace hf := rk_bd hf
  obtain ⟨q1, e1, hf⟩ := hf
  refine AW_getQ dX7_endOf_1 kf_X7_15 rfl hS_a0 (by decide) e1 ?_
  refine AW_iload_n1 dX7_endOf_4 ?_
  replace hf := rk_bd hf
  obtain ⟨o1, e2, hf⟩ := hf
  subst e2
  replace hf := rk_bd hf
  obtain ⟨x1, e3, hf⟩ := hf
  refine AW_rdD dX7_endOf_5 e3 ?_
  exact AW_iret dX7_endOf_6 rfl (hq _ (Option.some.inj hf).symm)
theorem w_X7_endOf {G : rk_G} {l : Launch} {d : Nat} {n : Nat} {S : rk_Sh} {I : rk_I} {J : rk_J} {R : rk_R} {a0 : Nat} {a1 : Int32} {v8 : Int32} (hS_a0 : S a0 = (7, 2)) (hf : f_X7_endOf S I R a0 a1 = some v8) :
    CW G l yX7_endOf cX7_endOf 2 (some .int) d 0 0 [.ref a0, .int a1] n S I J R (rk_qi v8 n S I J R True) :=
  CW.of (by decide +kernel) (Nat.le_of_ble_eq_true rfl) (rk_sbs (rk_sbs rk_sb0)) (b_X7_endOf hS_a0 hf (fun v9 h9 => by cases h9; exact ⟨rfl, rfl, rfl, rfl, rfl, rfl, trivial⟩))
noncomputable def f_X7_startOf (S : rk_Sh) (I : rk_I) (R : rk_R) (a0 : Nat) (a1 : Int32) : Option (Int32) :=
if a1 = 0 then (
some 0) else (
(some (R a0 1)).bind fun q1 =>
(q1).bind fun o1 =>
(rk_rdD S I o1 (a1 - 1)).bind fun x1 =>
some x1)
theorem b_X7_startOf {G : rk_G} {l : Launch} {d kc ks : Nat} {n : Nat} {S : rk_Sh} {I : rk_I} {J : rk_J} {R : rk_R} {Q : rk_Q} {a0 : Nat} {a1 : Int32} {r : Int32} (hS_a0 : S a0 = (7, 2)) (hf : f_X7_startOf S I R a0 a1 = some r) (hq : ∀ (v9 : Int32), r = v9 → Q (some (.int v9)) n S I J R) :
    AW G l yX7_startOf cX7_startOf 2 (some .int) d kc ks 0 [some (.ref a0), some (.int a1)] [] n S I J R Q := by
  unfold f_X7_startOf at hf
  refine AW_iload_n1 dX7_startOf_0 ?_
  refine AW_if_ne 8 dX7_startOf_1 (by decide) (fun h1 => ?_) (fun h1 => ?_)
  · replace hf := rk_if hf h1
    refine AW_aload_n0 dX7_startOf_8 ?_
    replace hf := rk_bd hf
    obtain ⟨q1, e1, hf⟩ := hf
    refine AW_getQ dX7_startOf_9 kf_X7_15 rfl hS_a0 (by decide) e1 ?_
    refine AW_iload_n1 dX7_startOf_12 ?_
    refine AW_iconst (v := 1) dX7_startOf_13 (by decide) ?_
    refine AW_isub dX7_startOf_14 ?_
    replace hf := rk_bd hf
    obtain ⟨o1, e2, hf⟩ := hf
    subst e2
    replace hf := rk_bd hf
    obtain ⟨x1, e3, hf⟩ := hf
    refine AW_rdD dX7_startOf_15 e3 ?_
    exact AW_iret dX7_startOf_16 rfl (hq _ (Option.some.inj hf).symm)
  · replace hf := rk_it hf h1
    refine AW_iconst (v := 0) dX7_startOf_4 (by decide) ?_
    refine AW_goto 16 dX7_startOf_5 (by decide) ?_
    exact AW_iret dX7_startOf_16 rfl (hq _ (Option.some.inj hf).symm)
theorem w_X7_startOf {G : rk_G} {l : Launch} {d : Nat} {n : Nat} {S : rk_Sh} {I : rk_I} {J : rk_J} {R : rk_R} {a0 : Nat} {a1 : Int32} {v8 : Int32} (hS_a0 : S a0 = (7, 2)) (hf : f_X7_startOf S I R a0 a1 = some v8) :
    CW G l yX7_startOf cX7_startOf 2 (some .int) d 0 0 [.ref a0, .int a1] n S I J R (rk_qi v8 n S I J R True) :=
  CW.of (by decide +kernel) (Nat.le_of_ble_eq_true rfl) (rk_sbs (rk_sbs rk_sb0)) (b_X7_startOf hS_a0 hf (fun v9 h9 => by cases h9; exact ⟨rfl, rfl, rfl, rfl, rfl, rfl, trivial⟩))
noncomputable def f_X7_codeAt (S : rk_Sh) (I : rk_I) (R : rk_R) (a0 : Nat) (a1 : Int32) : Option (Int32) :=
(some (R a0 0)).bind fun q1 =>
(q1).bind fun o1 =>
(rk_rdD S I o1 a1).bind fun x1 =>
some x1
theorem b_X7_codeAt {G : rk_G} {l : Launch} {d kc ks : Nat} {n : Nat} {S : rk_Sh} {I : rk_I} {J : rk_J} {R : rk_R} {Q : rk_Q} {a0 : Nat} {a1 : Int32} {r : Int32} (hS_a0 : S a0 = (7, 2)) (hf : f_X7_codeAt S I R a0 a1 = some r) (hq : ∀ (v9 : Int32), r = v9 → Q (some (.int v9)) n S I J R) :
    AW G l yX7_codeAt cX7_codeAt 2 (some .int) d kc ks 0 [some (.ref a0), some (.int a1)] [] n S I J R Q := by
  unfold f_X7_codeAt at hf
  refine AW_aload_n0 dX7_codeAt_0 ?_
  replace hf := rk_bd hf
  obtain ⟨q1, e1, hf⟩ := hf
  refine AW_getQ dX7_codeAt_1 kf_X7_9 rfl hS_a0 (by decide) e1 ?_
  refine AW_iload_n1 dX7_codeAt_4 ?_
  replace hf := rk_bd hf
  obtain ⟨o1, e2, hf⟩ := hf
  subst e2
  replace hf := rk_bd hf
  obtain ⟨x1, e3, hf⟩ := hf
  refine AW_rdD dX7_codeAt_5 e3 ?_
  exact AW_iret dX7_codeAt_6 rfl (hq _ (Option.some.inj hf).symm)
theorem w_X7_codeAt {G : rk_G} {l : Launch} {d : Nat} {n : Nat} {S : rk_Sh} {I : rk_I} {J : rk_J} {R : rk_R} {a0 : Nat} {a1 : Int32} {v8 : Int32} (hS_a0 : S a0 = (7, 2)) (hf : f_X7_codeAt S I R a0 a1 = some v8) :
    CW G l yX7_codeAt cX7_codeAt 2 (some .int) d 0 0 [.ref a0, .int a1] n S I J R (rk_qi v8 n S I J R True) :=
  CW.of (by decide +kernel) (Nat.le_of_ble_eq_true rfl) (rk_sbs (rk_sbs rk_sb0)) (b_X7_codeAt hS_a0 hf (fun v9 h9 => by cases h9; exact ⟨rfl, rfl, rfl, rfl, rfl, rfl, trivial⟩))
noncomputable def f_X3_pop (I : rk_I)  : Option (Int32 × rk_I) :=
if 0 < (I 10 1) then (
(some (rk_ui I 10 1 ((I 10 1) - 1))).bind fun I1 =>
(rk_rd I1 11 160 (I1 10 1)).bind fun x1 =>
some (x1, I1)) else (
some (0, I))
theorem b_X3_pop {G : rk_G} {l : Launch} {d kc ks : Nat} {n : Nat} {S : rk_Sh} {I : rk_I} {J : rk_J} {R : rk_R} {Q : rk_Q}  {r : Int32 × rk_I} (hL : rk_LC S R) (hf : f_X3_pop I = some r) (hq : ∀ (v9 : Int32) (I9 : rk_I), r = (v9, I9) → Q (some (.int v9)) n S I9 J R) :
    AW G l yX3_pop cX3_pop 1 (some .int) d kc ks 0 [some (.ref 10)] [] n S I J R Q := by
  unfold f_X3_pop at hf
  refine AW_aload_n0 dX3_pop_0 ?_
  refine AW_getI dX3_pop_1 kf_X3_13 rfl (hL.1 10 (by decide)) (by decide) ?_
  refine AW_if_gt 9 dX3_pop_4 (by decide) (fun h1 => ?_) (fun h1 => ?_)
  · replace hf := rk_it hf h1
    refine AW_aload_n0 dX3_pop_9 ?_
    refine AW_dup dX3_pop_10 rfl ?_
    refine AW_getI dX3_pop_11 kf_X3_13 rfl (hL.1 10 (by decide)) (by decide) ?_
    refine AW_iconst (v := 1) dX3_pop_14 (by decide) ?_
    refine AW_isub dX3_pop_15 ?_
    replace hf := rk_bd hf
    obtain ⟨I1, e1, hf⟩ := hf
    refine AW_puI dX3_pop_16 kf_X3_13 rfl (hL.1 10 (by decide)) (by decide) e1 ?_
    refine AW_aload_n0 dX3_pop_19 ?_
    refine AW_getR dX3_pop_20 kf_X3_9 rfl (hL.1 10 (by decide)) (by decide) (hL.2 10 0 11 rfl) ?_
    refine AW_aload_n0 dX3_pop_23 ?_
    refine AW_getI dX3_pop_24 kf_X3_13 rfl (hL.1 10 (by decide)) (by decide) ?_
    replace hf := rk_bd hf
    obtain ⟨x1, e2, hf⟩ := hf
    refine AW_rd dX3_pop_27 (hL.1 11 (by decide)) e2 ?_
    exact AW_iret dX3_pop_28 rfl (hq _ _ (Option.some.inj hf).symm)
  · replace hf := rk_if hf h1
    refine AW_iconst (v := 0) dX3_pop_7 (by decide) ?_
    exact AW_iret dX3_pop_8 rfl (hq _ _ (Option.some.inj hf).symm)
theorem w_X3_pop {G : rk_G} {l : Launch} {d : Nat} {n : Nat} {S : rk_Sh} {I : rk_I} {J : rk_J} {R : rk_R}  {v8 : Int32} {I8 : rk_I} (hL : rk_LC S R) (hf : f_X3_pop I = some (v8, I8)) :
    CW G l yX3_pop cX3_pop 1 (some .int) d 0 0 [.ref 10] n S I J R (rk_qi v8 n S I8 J R True) :=
  CW.of (by decide +kernel) (Nat.le_of_ble_eq_true rfl) (rk_sbs rk_sb0) (b_X3_pop hL hf (fun v9 I9 h9 => by cases h9; exact ⟨rfl, rfl, rfl, rfl, rfl, rfl, trivial⟩))
noncomputable def f_X3_truth (a0 : Int32) : Option (Int32) :=
if a0 = 0 then (
some 0) else (
some 1)
theorem b_X3_truth {G : rk_G} {l : Launch} {d kc ks : Nat} {n : Nat} {S : rk_Sh} {I : rk_I} {J : rk_J} {R : rk_R} {Q : rk_Q} {a0 : Int32} {r : Int32} (hf : f_X3_truth a0 = some r) (hq : ∀ (v9 : Int32), r = v9 → Q (some (.int v9)) n S I J R) :
    AW G l yX3_truth cX3_truth 1 (some .int) d kc ks 0 [some (.int a0)] [] n S I J R Q := by
  unfold f_X3_truth at hf
  refine AW_iload_n0 dX3_truth_0 ?_
  refine AW_if_eq 8 dX3_truth_1 (by decide) (fun h1 => ?_) (fun h1 => ?_)
  · replace hf := rk_it hf h1
    refine AW_iconst (v := 0) dX3_truth_8 (by decide) ?_
    exact AW_iret dX3_truth_9 rfl (hq _ (Option.some.inj hf).symm)
  · replace hf := rk_if hf h1
    refine AW_iconst (v := 1) dX3_truth_4 (by decide) ?_
    refine AW_goto 9 dX3_truth_5 (by decide) ?_
    exact AW_iret dX3_truth_9 rfl (hq _ (Option.some.inj hf).symm)
theorem w_X3_truth {G : rk_G} {l : Launch} {d : Nat} {n : Nat} {S : rk_Sh} {I : rk_I} {J : rk_J} {R : rk_R} {a0 : Int32} {v8 : Int32} (hf : f_X3_truth a0 = some v8) :
    CW G l yX3_truth cX3_truth 1 (some .int) d 0 0 [.int a0] n S I J R (rk_qi v8 n S I J R True) :=
  CW.of (by decide +kernel) (Nat.le_of_ble_eq_true rfl) (rk_sbs rk_sb0) (b_X3_truth hf (fun v9 h9 => by cases h9; exact ⟨rfl, rfl, rfl, rfl, rfl, rfl, trivial⟩))
noncomputable def f_X3_joined (a0 : Int32) (a1 : Int32) (a2 : Int32) : Option (Int32) :=
if a0 = 6 then (
if a1 = 0 then (
if a2 = 0 then (
(f_X3_truth 0).bind fun x2 =>
some x2) else (
(f_X3_truth 1).bind fun x3 =>
some x3)) else (
(f_X3_truth 1).bind fun x1 =>
some x1)) else
if a0 = 7 then (
if a1 = 0 then (
(f_X3_truth 0).bind fun x4 =>
some x4) else (
if a2 = 0 then (
(f_X3_truth 0).bind fun x5 =>
some x5) else (
(f_X3_truth 1).bind fun x6 =>
some x6))) else
if a0 = 43 then (
some (a1 + a2)) else
if a0 = 45 then (
some (a1 - a2)) else
if a0 = 60 then (
if a2 ≤ a1 then (
(f_X3_truth 0).bind fun x7 =>
some x7) else (
(f_X3_truth 1).bind fun x8 =>
some x8)) else
if a0 = 61 then (
if a1 = a2 then (
(f_X3_truth 1).bind fun x10 =>
some x10) else (
(f_X3_truth 0).bind fun x9 =>
some x9)) else
some (a1 * a2)
theorem b_X3_joined {G : rk_G} {l : Launch} {d kc ks : Nat} {n : Nat} {S : rk_Sh} {I : rk_I} {J : rk_J} {R : rk_R} {Q : rk_Q} {a0 : Int32} {a1 : Int32} {a2 : Int32} {r : Int32} (hd : 1 ≤ d) (hf : f_X3_joined a0 a1 a2 = some r) (hq : ∀ (v9 : Int32), r = v9 → Q (some (.int v9)) n S I J R) :
    AW G l yX3_joined cX3_joined 3 (some .int) d kc ks 0 [some (.int a0), some (.int a1), some (.int a2)] [] n S I J R Q := by
  unfold f_X3_joined at hf
  refine AW_iload_n0 dX3_joined_0 ?_
  by_cases h1 : a0 = 6
  · replace hf := rk_it hf h1
    refine AW_lookup 60 dX3_joined_1 (by decide) (by rw [h1]) (by decide) ?_
    refine AW_iload_n1 dX3_joined_60 ?_
    refine AW_if_ne 68 dX3_joined_61 (by decide) (fun h2 => ?_) (fun h2 => ?_)
    · replace hf := rk_if hf h2
      refine AW_iconst (v := 1) dX3_joined_68 (by decide) ?_
      refine AW_goto 73 dX3_joined_69 (by decide) ?_
      replace hf := rk_bd hf
      obtain ⟨x1, e1, hf⟩ := hf
      refine AW_iS1iz (w_X3_truth (d := 0) e1) dX3_joined_73 kl_X3_47 (Nat.le_trans (by decide) hd) (by decide) (Nat.le_of_ble_eq_true rfl) (fun _ => ?_)
      exact AW_iret dX3_joined_76 rfl (hq _ (Option.some.inj hf).symm)
    · replace hf := rk_it hf h2
      refine AW_iload_n2 dX3_joined_64 ?_
      refine AW_if_eq 72 dX3_joined_65 (by decide) (fun h3 => ?_) (fun h3 => ?_)
      · replace hf := rk_it hf h3
        refine AW_iconst (v := 0) dX3_joined_72 (by decide) ?_
        replace hf := rk_bd hf
        obtain ⟨x2, e2, hf⟩ := hf
        refine AW_iS1iz (w_X3_truth (d := 0) e2) dX3_joined_73 kl_X3_47 (Nat.le_trans (by decide) hd) (by decide) (Nat.le_of_ble_eq_true rfl) (fun _ => ?_)
        exact AW_iret dX3_joined_76 rfl (hq _ (Option.some.inj hf).symm)
      · replace hf := rk_if hf h3
        refine AW_iconst (v := 1) dX3_joined_68 (by decide) ?_
        refine AW_goto 73 dX3_joined_69 (by decide) ?_
        replace hf := rk_bd hf
        obtain ⟨x3, e3, hf⟩ := hf
        refine AW_iS1iz (w_X3_truth (d := 0) e3) dX3_joined_73 kl_X3_47 (Nat.le_trans (by decide) hd) (by decide) (Nat.le_of_ble_eq_true rfl) (fun _ => ?_)
        exact AW_iret dX3_joined_76 rfl (hq _ (Option.some.inj hf).symm)
  replace hf := rk_if hf h1
  by_cases h4 : a0 = 7
  · replace hf := rk_it hf h4
    refine AW_lookup 77 dX3_joined_1 (by decide) (by rw [h4]) (by decide) ?_
    refine AW_iload_n1 dX3_joined_77 ?_
    refine AW_if_eq 89 dX3_joined_78 (by decide) (fun h5 => ?_) (fun h5 => ?_)
    · replace hf := rk_it hf h5
      refine AW_iconst (v := 0) dX3_joined_89 (by decide) ?_
      replace hf := rk_bd hf
      obtain ⟨x4, e4, hf⟩ := hf
      refine AW_iS1iz (w_X3_truth (d := 0) e4) dX3_joined_90 kl_X3_47 (Nat.le_trans (by decide) hd) (by decide) (Nat.le_of_ble_eq_true rfl) (fun _ => ?_)
      exact AW_iret dX3_joined_93 rfl (hq _ (Option.some.inj hf).symm)
    · replace hf := rk_if hf h5
      refine AW_iload_n2 dX3_joined_81 ?_
      refine AW_if_eq 89 dX3_joined_82 (by decide) (fun h6 => ?_) (fun h6 => ?_)
      · replace hf := rk_it hf h6
        refine AW_iconst (v := 0) dX3_joined_89 (by decide) ?_
        replace hf := rk_bd hf
        obtain ⟨x5, e5, hf⟩ := hf
        refine AW_iS1iz (w_X3_truth (d := 0) e5) dX3_joined_90 kl_X3_47 (Nat.le_trans (by decide) hd) (by decide) (Nat.le_of_ble_eq_true rfl) (fun _ => ?_)
        exact AW_iret dX3_joined_93 rfl (hq _ (Option.some.inj hf).symm)
      · replace hf := rk_if hf h6
        refine AW_iconst (v := 1) dX3_joined_85 (by decide) ?_
        refine AW_goto 90 dX3_joined_86 (by decide) ?_
        replace hf := rk_bd hf
        obtain ⟨x6, e6, hf⟩ := hf
        refine AW_iS1iz (w_X3_truth (d := 0) e6) dX3_joined_90 kl_X3_47 (Nat.le_trans (by decide) hd) (by decide) (Nat.le_of_ble_eq_true rfl) (fun _ => ?_)
        exact AW_iret dX3_joined_93 rfl (hq _ (Option.some.inj hf).symm)
  replace hf := rk_if hf h4
  by_cases h7 : a0 = 43
  · replace hf := rk_it hf h7
    refine AW_lookup 122 dX3_joined_1 (by decide) (by rw [h7]) (by decide) ?_
    refine AW_iload_n1 dX3_joined_122 ?_
    refine AW_iload_n2 dX3_joined_123 ?_
    refine AW_iadd dX3_joined_124 ?_
    exact AW_iret dX3_joined_125 rfl (hq _ (Option.some.inj hf).symm)
  replace hf := rk_if hf h7
  by_cases h8 : a0 = 45
  · replace hf := rk_it hf h8
    refine AW_lookup 126 dX3_joined_1 (by decide) (by rw [h8]) (by decide) ?_
    refine AW_iload_n1 dX3_joined_126 ?_
    refine AW_iload_n2 dX3_joined_127 ?_
    refine AW_isub dX3_joined_128 ?_
    exact AW_iret dX3_joined_129 rfl (hq _ (Option.some.inj hf).symm)
  replace hf := rk_if hf h8
  by_cases h9 : a0 = 60
  · replace hf := rk_it hf h9
    refine AW_lookup 94 dX3_joined_1 (by decide) (by rw [h9]) (by decide) ?_
    refine AW_iload_n1 dX3_joined_94 ?_
    refine AW_iload_n2 dX3_joined_95 ?_
    refine AW_icmp_ge 103 dX3_joined_96 (by decide) (fun h10 => ?_) (fun h10 => ?_)
    · replace hf := rk_it hf h10
      refine AW_iconst (v := 0) dX3_joined_103 (by decide) ?_
      replace hf := rk_bd hf
      obtain ⟨x7, e7, hf⟩ := hf
      refine AW_iS1iz (w_X3_truth (d := 0) e7) dX3_joined_104 kl_X3_47 (Nat.le_trans (by decide) hd) (by decide) (Nat.le_of_ble_eq_true rfl) (fun _ => ?_)
      exact AW_iret dX3_joined_107 rfl (hq _ (Option.some.inj hf).symm)
    · replace hf := rk_if hf h10
      refine AW_iconst (v := 1) dX3_joined_99 (by decide) ?_
      refine AW_goto 104 dX3_joined_100 (by decide) ?_
      replace hf := rk_bd hf
      obtain ⟨x8, e8, hf⟩ := hf
      refine AW_iS1iz (w_X3_truth (d := 0) e8) dX3_joined_104 kl_X3_47 (Nat.le_trans (by decide) hd) (by decide) (Nat.le_of_ble_eq_true rfl) (fun _ => ?_)
      exact AW_iret dX3_joined_107 rfl (hq _ (Option.some.inj hf).symm)
  replace hf := rk_if hf h9
  by_cases h11 : a0 = 61
  · replace hf := rk_it hf h11
    refine AW_lookup 108 dX3_joined_1 (by decide) (by rw [h11]) (by decide) ?_
    refine AW_iload_n1 dX3_joined_108 ?_
    refine AW_iload_n2 dX3_joined_109 ?_
    refine AW_icmp_ne 117 dX3_joined_110 (by decide) (fun h12 => ?_) (fun h12 => ?_)
    · replace hf := rk_if hf h12
      refine AW_iconst (v := 0) dX3_joined_117 (by decide) ?_
      replace hf := rk_bd hf
      obtain ⟨x9, e9, hf⟩ := hf
      refine AW_iS1iz (w_X3_truth (d := 0) e9) dX3_joined_118 kl_X3_47 (Nat.le_trans (by decide) hd) (by decide) (Nat.le_of_ble_eq_true rfl) (fun _ => ?_)
      exact AW_iret dX3_joined_121 rfl (hq _ (Option.some.inj hf).symm)
    · replace hf := rk_it hf h12
      refine AW_iconst (v := 1) dX3_joined_113 (by decide) ?_
      refine AW_goto 118 dX3_joined_114 (by decide) ?_
      replace hf := rk_bd hf
      obtain ⟨x10, e10, hf⟩ := hf
      refine AW_iS1iz (w_X3_truth (d := 0) e10) dX3_joined_118 kl_X3_47 (Nat.le_trans (by decide) hd) (by decide) (Nat.le_of_ble_eq_true rfl) (fun _ => ?_)
      exact AW_iret dX3_joined_121 rfl (hq _ (Option.some.inj hf).symm)
  replace hf := rk_if hf h11
  have g_h1 : ¬ (6 : Int) = (a0).toInt := fun z => h1 (Int32.toInt_inj.mp z.symm)
  have g_h4 : ¬ (7 : Int) = (a0).toInt := fun z => h4 (Int32.toInt_inj.mp z.symm)
  have g_h7 : ¬ (43 : Int) = (a0).toInt := fun z => h7 (Int32.toInt_inj.mp z.symm)
  have g_h8 : ¬ (45 : Int) = (a0).toInt := fun z => h8 (Int32.toInt_inj.mp z.symm)
  have g_h9 : ¬ (60 : Int) = (a0).toInt := fun z => h9 (Int32.toInt_inj.mp z.symm)
  have g_h11 : ¬ (61 : Int) = (a0).toInt := fun z => h11 (Int32.toInt_inj.mp z.symm)
  refine AW_lookup (x := a0) (off := 129) 130 dX3_joined_1 (by decide) (by simp [Op.lookupswitch.offset, g_h1, g_h4, g_h7, g_h8, g_h9, g_h11]) (by decide) ?_
  refine AW_iload_n1 dX3_joined_130 ?_
  refine AW_iload_n2 dX3_joined_131 ?_
  refine AW_imul dX3_joined_132 ?_
  exact AW_iret dX3_joined_133 rfl (hq _ (Option.some.inj hf).symm)
theorem w_X3_joined {G : rk_G} {l : Launch} {d : Nat} {n : Nat} {S : rk_Sh} {I : rk_I} {J : rk_J} {R : rk_R} {a0 : Int32} {a1 : Int32} {a2 : Int32} {v8 : Int32} (hd : 1 ≤ d) (hf : f_X3_joined a0 a1 a2 = some v8) :
    CW G l yX3_joined cX3_joined 3 (some .int) d 0 0 [.int a0, .int a1, .int a2] n S I J R (rk_qi v8 n S I J R True) :=
  CW.of (by decide +kernel) (Nat.le_of_ble_eq_true rfl) (rk_sbs (rk_sbs (rk_sbs rk_sb0))) (b_X3_joined hd hf (fun v9 h9 => by cases h9; exact ⟨rfl, rfl, rfl, rfl, rfl, rfl, trivial⟩))
noncomputable def f_X3_push (I : rk_I) (a1 : Int32) : Option (rk_I) :=
if 160 ≤ (I 10 1) then (
some I) else (
(rk_wr I 11 160 (I 10 1) a1).bind fun I1 =>
(some (rk_ui I1 10 1 ((I1 10 1) + 1))).bind fun I2 =>
some I2)
theorem b_X3_push {G : rk_G} {l : Launch} {d kc ks : Nat} {n : Nat} {S : rk_Sh} {I : rk_I} {J : rk_J} {R : rk_R} {Q : rk_Q} {a1 : Int32} {r : rk_I} (hL : rk_LC S R) (hf : f_X3_push I a1 = some r) (hq : ∀ (I9 : rk_I), r = I9 → Q (none) n S I9 J R) :
    AW G l yX3_push cX3_push 2 none d kc ks 0 [some (.ref 10), some (.int a1)] [] n S I J R Q := by
  unfold f_X3_push at hf
  refine AW_aload_n0 dX3_push_0 ?_
  refine AW_getI dX3_push_1 kf_X3_13 rfl (hL.1 10 (by decide)) (by decide) ?_
  refine AW_sipush (v := 160) dX3_push_4 (by decide) ?_
  refine AW_icmp_ge 30 dX3_push_7 (by decide) (fun h1 => ?_) (fun h1 => ?_)
  · replace hf := rk_it hf h1
    exact AW_vret dX3_push_30 rfl (hq _ (Option.some.inj hf).symm)
  · replace hf := rk_if hf h1
    refine AW_aload_n0 dX3_push_10 ?_
    refine AW_getR dX3_push_11 kf_X3_9 rfl (hL.1 10 (by decide)) (by decide) (hL.2 10 0 11 rfl) ?_
    refine AW_aload_n0 dX3_push_14 ?_
    refine AW_getI dX3_push_15 kf_X3_13 rfl (hL.1 10 (by decide)) (by decide) ?_
    refine AW_iload_n1 dX3_push_18 ?_
    replace hf := rk_bd hf
    obtain ⟨I1, e1, hf⟩ := hf
    refine AW_wr dX3_push_19 (hL.1 11 (by decide)) e1 ?_
    refine AW_aload_n0 dX3_push_20 ?_
    refine AW_dup dX3_push_21 rfl ?_
    refine AW_getI dX3_push_22 kf_X3_13 rfl (hL.1 10 (by decide)) (by decide) ?_
    refine AW_iconst (v := 1) dX3_push_25 (by decide) ?_
    refine AW_iadd dX3_push_26 ?_
    replace hf := rk_bd hf
    obtain ⟨I2, e2, hf⟩ := hf
    refine AW_puI dX3_push_27 kf_X3_13 rfl (hL.1 10 (by decide)) (by decide) e2 ?_
    exact AW_vret dX3_push_30 rfl (hq _ (Option.some.inj hf).symm)
theorem w_X3_push {G : rk_G} {l : Launch} {d : Nat} {n : Nat} {S : rk_Sh} {I : rk_I} {J : rk_J} {R : rk_R} {a1 : Int32} {I8 : rk_I} (hL : rk_LC S R) (hf : f_X3_push I a1 = some I8) :
    CW G l yX3_push cX3_push 2 none d 0 0 [.ref 10, .int a1] n S I J R (rk_qv n S I8 J R True) :=
  CW.of (by decide +kernel) (Nat.le_of_ble_eq_true rfl) (rk_sbs (rk_sbs rk_sb0)) (b_X3_push hL hf (fun I9 h9 => by cases h9; exact ⟨rfl, rfl, rfl, rfl, rfl, rfl, trivial⟩))
noncomputable def f_X5_due (I : rk_I) (a0 : Nat) : Option (Int32) :=
some ((I a0 5) * (I a0 4))
theorem b_X5_due {G : rk_G} {l : Launch} {d kc ks : Nat} {n : Nat} {S : rk_Sh} {I : rk_I} {J : rk_J} {R : rk_R} {Q : rk_Q} {a0 : Nat} {r : Int32} (hS_a0 : S a0 = (5, 11)) (hf : f_X5_due I a0 = some r) (hq : ∀ (v9 : Int32), r = v9 → Q (some (.int v9)) n S I J R) :
    AW G l yX5_due cX5_due 1 (some .int) d kc ks 0 [some (.ref a0)] [] n S I J R Q := by
  unfold f_X5_due at hf
  refine AW_aload_n0 dX5_due_0 ?_
  refine AW_getI dX5_due_1 kf_X5_34 rfl hS_a0 (by decide) ?_
  refine AW_aload_n0 dX5_due_4 ?_
  refine AW_getI dX5_due_5 kf_X5_31 rfl hS_a0 (by decide) ?_
  refine AW_imul dX5_due_8 ?_
  exact AW_iret dX5_due_9 rfl (hq _ (Option.some.inj hf).symm)
theorem w_X5_due {G : rk_G} {l : Launch} {d : Nat} {n : Nat} {S : rk_Sh} {I : rk_I} {J : rk_J} {R : rk_R} {a0 : Nat} {v8 : Int32} (hS_a0 : S a0 = (5, 11)) (hf : f_X5_due I a0 = some v8) :
    CW G l yX5_due cX5_due 1 (some .int) d 0 0 [.ref a0] n S I J R (rk_qi v8 n S I J R True) :=
  CW.of (by decide +kernel) (Nat.le_of_ble_eq_true rfl) (rk_sbs rk_sb0) (b_X5_due hS_a0 hf (fun v9 h9 => by cases h9; exact ⟨rfl, rfl, rfl, rfl, rfl, rfl, trivial⟩))
noncomputable def f_X3_named (I : rk_I) (a0 : Int32) (a1 : Nat) (a2 : Int32) : Option (Int32) :=
if a0 = 0 then (
some (I a1 0)) else
if a0 = 1 then (
some (a2 - (I a1 6))) else
if a0 = 2 then (
some (I a1 5)) else
if a0 = 3 then (
some (I a1 4)) else
if a0 = 4 then (
some (I a1 8)) else
(f_X5_due I a1).bind fun x1 =>
some x1
theorem b_X3_named {G : rk_G} {l : Launch} {d kc ks : Nat} {n : Nat} {S : rk_Sh} {I : rk_I} {J : rk_J} {R : rk_R} {Q : rk_Q} {a0 : Int32} {a1 : Nat} {a2 : Int32} {r : Int32} (hd : 1 ≤ d) (hS_a1 : S a1 = (5, 11)) (hf : f_X3_named I a0 a1 a2 = some r) (hq : ∀ (v9 : Int32), r = v9 → Q (some (.int v9)) n S I J R) :
    AW G l yX3_named cX3_named 3 (some .int) d kc ks 0 [some (.int a0), some (.ref a1), some (.int a2)] [] n S I J R Q := by
  unfold f_X3_named at hf
  refine AW_iload_n0 dX3_named_0 ?_
  by_cases h1 : a0 = 0
  · replace hf := rk_it hf h1
    refine AW_tableIn 36 dX3_named_1 (by rw [h1]; decide) (by rw [h1]; decide) (by rw [h1]; rfl) (by decide) ?_
    refine AW_aload_n1 dX3_named_36 ?_
    refine AW_getI dX3_named_37 kf_X3_55 rfl hS_a1 (by decide) ?_
    exact AW_iret dX3_named_40 rfl (hq _ (Option.some.inj hf).symm)
  replace hf := rk_if hf h1
  by_cases h2 : a0 = 1
  · replace hf := rk_it hf h2
    refine AW_tableIn 41 dX3_named_1 (by rw [h2]; decide) (by rw [h2]; decide) (by rw [h2]; rfl) (by decide) ?_
    refine AW_iload_n2 dX3_named_41 ?_
    refine AW_aload_n1 dX3_named_42 ?_
    refine AW_getI dX3_named_43 kf_X3_60 rfl hS_a1 (by decide) ?_
    refine AW_isub dX3_named_46 ?_
    exact AW_iret dX3_named_47 rfl (hq _ (Option.some.inj hf).symm)
  replace hf := rk_if hf h2
  by_cases h3 : a0 = 2
  · replace hf := rk_it hf h3
    refine AW_tableIn 48 dX3_named_1 (by rw [h3]; decide) (by rw [h3]; decide) (by rw [h3]; rfl) (by decide) ?_
    refine AW_aload_n1 dX3_named_48 ?_
    refine AW_getI dX3_named_49 kf_X3_63 rfl hS_a1 (by decide) ?_
    exact AW_iret dX3_named_52 rfl (hq _ (Option.some.inj hf).symm)
  replace hf := rk_if hf h3
  by_cases h4 : a0 = 3
  · replace hf := rk_it hf h4
    refine AW_tableIn 53 dX3_named_1 (by rw [h4]; decide) (by rw [h4]; decide) (by rw [h4]; rfl) (by decide) ?_
    refine AW_aload_n1 dX3_named_53 ?_
    refine AW_getI dX3_named_54 kf_X3_66 rfl hS_a1 (by decide) ?_
    exact AW_iret dX3_named_57 rfl (hq _ (Option.some.inj hf).symm)
  replace hf := rk_if hf h4
  by_cases h5 : a0 = 4
  · replace hf := rk_it hf h5
    refine AW_tableIn 58 dX3_named_1 (by rw [h5]; decide) (by rw [h5]; decide) (by rw [h5]; rfl) (by decide) ?_
    refine AW_aload_n1 dX3_named_58 ?_
    refine AW_getI dX3_named_59 kf_X3_69 rfl hS_a1 (by decide) ?_
    exact AW_iret dX3_named_62 rfl (hq _ (Option.some.inj hf).symm)
  replace hf := rk_if hf h5
  refine AW_tableOut 63 dX3_named_1 (by
    have g_h1 : ¬ (a0).toInt = 0 := fun z => h1 (Int32.toInt_inj.mp z)
    have g_h2 : ¬ (a0).toInt = 1 := fun z => h2 (Int32.toInt_inj.mp z)
    have g_h3 : ¬ (a0).toInt = 2 := fun z => h3 (Int32.toInt_inj.mp z)
    have g_h4 : ¬ (a0).toInt = 3 := fun z => h4 (Int32.toInt_inj.mp z)
    have g_h5 : ¬ (a0).toInt = 4 := fun z => h5 (Int32.toInt_inj.mp z)
    omega) (by decide) ?_
  refine AW_aload_n1 dX3_named_63 ?_
  replace hf := rk_bd hf
  obtain ⟨x1, e1, hf⟩ := hf
  refine AW_iV0iz (w_X5_due (d := 0) hS_a1 e1) dX3_named_64 kl_X3_72 hS_a1 rfl (Nat.le_trans (by decide) hd) (by decide) (Nat.le_of_ble_eq_true rfl) (fun _ => ?_)
  exact AW_iret dX3_named_67 rfl (hq _ (Option.some.inj hf).symm)
theorem w_X3_named {G : rk_G} {l : Launch} {d : Nat} {n : Nat} {S : rk_Sh} {I : rk_I} {J : rk_J} {R : rk_R} {a0 : Int32} {a1 : Nat} {a2 : Int32} {v8 : Int32} (hd : 1 ≤ d) (hS_a1 : S a1 = (5, 11)) (hf : f_X3_named I a0 a1 a2 = some v8) :
    CW G l yX3_named cX3_named 3 (some .int) d 0 0 [.int a0, .ref a1, .int a2] n S I J R (rk_qi v8 n S I J R True) :=
  CW.of (by decide +kernel) (Nat.le_of_ble_eq_true rfl) (rk_sbs (rk_sbs (rk_sbs rk_sb0))) (b_X3_named hd hS_a1 hf (fun v9 h9 => by cases h9; exact ⟨rfl, rfl, rfl, rfl, rfl, rfl, trivial⟩))
noncomputable def f_X3_step (I : rk_I) (a1 : Int32) (a2 : Nat) (a3 : Int32) : Option (rk_I) :=
if a1 < 100 then (
if 6 ≤ a1 then (
if a1 = 8 then (
rk_b2 (f_X3_pop I) fun x5 I6 =>
if x5 = 0 then (
(f_X3_truth 1).bind fun x7 =>
(f_X3_push I6 x7).bind fun I8 =>
some I8) else (
(f_X3_truth 0).bind fun x6 =>
(f_X3_push I6 x6).bind fun I7 =>
some I7)) else (
if a1 = 22 then (
rk_b2 (f_X3_pop I) fun x4 I4 =>
(f_X3_push I4 (-x4)).bind fun I5 =>
some I5) else (
rk_b2 (f_X3_pop I) fun x1 I1 =>
rk_b2 (f_X3_pop I1) fun x2 I2 =>
(f_X3_joined a1 x2 x1).bind fun x3 =>
(f_X3_push I2 x3).bind fun I3 =>
some I3))) else (
(f_X3_named I a1 a2 a3).bind fun x8 =>
(f_X3_push I x8).bind fun I9 =>
some I9)) else (
(f_X3_push I (a1 - 100)).bind fun I10 =>
some I10)
theorem b_X3_step {G : rk_G} {l : Launch} {d kc ks : Nat} {n : Nat} {S : rk_Sh} {I : rk_I} {J : rk_J} {R : rk_R} {Q : rk_Q} {a1 : Int32} {a2 : Nat} {a3 : Int32} {r : rk_I} (hd : 2 ≤ d) (hS_a2 : S a2 = (5, 11)) (hL : rk_LC S R) (hf : f_X3_step I a1 a2 a3 = some r) (hq : ∀ (I9 : rk_I), r = I9 → Q (none) n S I9 J R) :
    AW G l yX3_step cX3_step 6 none d kc ks 0 [some (.ref 10), some (.int a1), some (.ref a2), some (.int a3), none, none] [] n S I J R Q := by
  unfold f_X3_step at hf
  refine AW_iload_n1 dX3_step_0 ?_
  refine AW_bipush (v := 100) dX3_step_1 (by decide) ?_
  refine AW_icmp_lt 17 dX3_step_3 (by decide) (fun h1 => ?_) (fun h1 => ?_)
  · replace hf := rk_it hf h1
    refine AW_iload_n1 dX3_step_17 ?_
    refine AW_bipush (v := 6) dX3_step_18 (by decide) ?_
    refine AW_icmp_ge 36 dX3_step_20 (by decide) (fun h2 => ?_) (fun h2 => ?_)
    · replace hf := rk_it hf h2
      refine AW_iload_n1 dX3_step_36 ?_
      refine AW_bipush (v := 8) dX3_step_37 (by decide) ?_
      refine AW_icmp_ne 64 dX3_step_39 (by decide) (fun h3 => ?_) (fun h3 => ?_)
      · replace hf := rk_if hf h3
        refine AW_iload_n1 dX3_step_64 ?_
        refine AW_bipush (v := 22) dX3_step_65 (by decide) ?_
        refine AW_icmp_ne 82 dX3_step_67 (by decide) (fun h4 => ?_) (fun h4 => ?_)
        · replace hf := rk_if hf h4
          refine AW_aload_n0 dX3_step_82 ?_
          replace hf := rk_bd2 hf
          obtain ⟨x1, I1, e1, hf⟩ := hf
          refine AW_iV0iz (w_X3_pop (d := 0) hL e1) dX3_step_83 kl_X3_33 (hL.1 10 (by decide)) rfl (Nat.le_trans (by decide) hd) (by decide) (Nat.le_of_ble_eq_true rfl) (fun _ => ?_)
          refine AW_istore_4 dX3_step_86 (by decide) rfl ?_
          refine AW_aload_n0 dX3_step_88 ?_
          replace hf := rk_bd2 hf
          obtain ⟨x2, I2, e2, hf⟩ := hf
          refine AW_iV0iz (w_X3_pop (d := 0) hL e2) dX3_step_89 kl_X3_33 (hL.1 10 (by decide)) rfl (Nat.le_trans (by decide) hd) (by decide) (Nat.le_of_ble_eq_true rfl) (fun _ => ?_)
          refine AW_istore_5 dX3_step_92 (by decide) rfl ?_
          refine AW_aload_n0 dX3_step_94 ?_
          refine AW_iload_n1 dX3_step_95 ?_
          refine AW_iload_5 dX3_step_96 ?_
          refine AW_iload_4 dX3_step_98 ?_
          replace hf := rk_bd hf
          obtain ⟨x3, e3, hf⟩ := hf
          refine AW_iS3iz (w_X3_joined (d := 1) (Nat.le_refl _) e3) dX3_step_100 kl_X3_51 (Nat.le_trans (by decide) hd) (by decide) (Nat.le_of_ble_eq_true rfl) (fun _ => ?_)
          replace hf := rk_bd hf
          obtain ⟨I3, e4, hf⟩ := hf
          refine AW_iV1vz (w_X3_push (d := 0) hL e4) dX3_step_103 kl_X3_39 (hL.1 10 (by decide)) rfl (Nat.le_trans (by decide) hd) (by decide) (Nat.le_of_ble_eq_true rfl) (fun _ => ?_)
          exact AW_vret dX3_step_106 rfl (hq _ (Option.some.inj hf).symm)
        · replace hf := rk_it hf h4
          refine AW_aload_n0 dX3_step_70 ?_
          refine AW_aload_n0 dX3_step_71 ?_
          replace hf := rk_bd2 hf
          obtain ⟨x4, I4, e5, hf⟩ := hf
          refine AW_iV0iz (w_X3_pop (d := 0) hL e5) dX3_step_72 kl_X3_33 (hL.1 10 (by decide)) rfl (Nat.le_trans (by decide) hd) (by decide) (Nat.le_of_ble_eq_true rfl) (fun _ => ?_)
          refine AW_ineg dX3_step_75 ?_
          replace hf := rk_bd hf
          obtain ⟨I5, e6, hf⟩ := hf
          refine AW_iV1vz (w_X3_push (d := 0) hL e6) dX3_step_76 kl_X3_39 (hL.1 10 (by decide)) rfl (Nat.le_trans (by decide) hd) (by decide) (Nat.le_of_ble_eq_true rfl) (fun _ => ?_)
          refine AW_goto 106 dX3_step_79 (by decide) ?_
          exact AW_vret dX3_step_106 rfl (hq _ (Option.some.inj hf).symm)
      · replace hf := rk_it hf h3
        refine AW_aload_n0 dX3_step_42 ?_
        refine AW_aload_n0 dX3_step_43 ?_
        replace hf := rk_bd2 hf
        obtain ⟨x5, I6, e7, hf⟩ := hf
        refine AW_iV0iz (w_X3_pop (d := 0) hL e7) dX3_step_44 kl_X3_33 (hL.1 10 (by decide)) rfl (Nat.le_trans (by decide) hd) (by decide) (Nat.le_of_ble_eq_true rfl) (fun _ => ?_)
        refine AW_if_ne 54 dX3_step_47 (by decide) (fun h5 => ?_) (fun h5 => ?_)
        · replace hf := rk_if hf h5
          refine AW_iconst (v := 0) dX3_step_54 (by decide) ?_
          replace hf := rk_bd hf
          obtain ⟨x6, e8, hf⟩ := hf
          refine AW_iS1iz (w_X3_truth (d := 0) e8) dX3_step_55 kl_X3_47 (Nat.le_trans (by decide) hd) (by decide) (Nat.le_of_ble_eq_true rfl) (fun _ => ?_)
          replace hf := rk_bd hf
          obtain ⟨I7, e9, hf⟩ := hf
          refine AW_iV1vz (w_X3_push (d := 0) hL e9) dX3_step_58 kl_X3_39 (hL.1 10 (by decide)) rfl (Nat.le_trans (by decide) hd) (by decide) (Nat.le_of_ble_eq_true rfl) (fun _ => ?_)
          refine AW_goto 106 dX3_step_61 (by decide) ?_
          exact AW_vret dX3_step_106 rfl (hq _ (Option.some.inj hf).symm)
        · replace hf := rk_it hf h5
          refine AW_iconst (v := 1) dX3_step_50 (by decide) ?_
          refine AW_goto 55 dX3_step_51 (by decide) ?_
          replace hf := rk_bd hf
          obtain ⟨x7, e10, hf⟩ := hf
          refine AW_iS1iz (w_X3_truth (d := 0) e10) dX3_step_55 kl_X3_47 (Nat.le_trans (by decide) hd) (by decide) (Nat.le_of_ble_eq_true rfl) (fun _ => ?_)
          replace hf := rk_bd hf
          obtain ⟨I8, e11, hf⟩ := hf
          refine AW_iV1vz (w_X3_push (d := 0) hL e11) dX3_step_58 kl_X3_39 (hL.1 10 (by decide)) rfl (Nat.le_trans (by decide) hd) (by decide) (Nat.le_of_ble_eq_true rfl) (fun _ => ?_)
          refine AW_goto 106 dX3_step_61 (by decide) ?_
          exact AW_vret dX3_step_106 rfl (hq _ (Option.some.inj hf).symm)
    · replace hf := rk_if hf h2
      refine AW_aload_n0 dX3_step_23 ?_
      refine AW_iload_n1 dX3_step_24 ?_
      refine AW_aload_n2 dX3_step_25 ?_
      refine AW_iload_n3 dX3_step_26 ?_
      replace hf := rk_bd hf
      obtain ⟨x8, e12, hf⟩ := hf
      refine AW_iS3iz (w_X3_named (d := 1) (Nat.le_refl _) hS_a2 e12) dX3_step_27 kl_X3_43 (Nat.le_trans (by decide) hd) (by decide) (Nat.le_of_ble_eq_true rfl) (fun _ => ?_)
      replace hf := rk_bd hf
      obtain ⟨I9, e13, hf⟩ := hf
      refine AW_iV1vz (w_X3_push (d := 0) hL e13) dX3_step_30 kl_X3_39 (hL.1 10 (by decide)) rfl (Nat.le_trans (by decide) hd) (by decide) (Nat.le_of_ble_eq_true rfl) (fun _ => ?_)
      refine AW_goto 106 dX3_step_33 (by decide) ?_
      exact AW_vret dX3_step_106 rfl (hq _ (Option.some.inj hf).symm)
  · replace hf := rk_if hf h1
    refine AW_aload_n0 dX3_step_6 ?_
    refine AW_iload_n1 dX3_step_7 ?_
    refine AW_bipush (v := 100) dX3_step_8 (by decide) ?_
    refine AW_isub dX3_step_10 ?_
    replace hf := rk_bd hf
    obtain ⟨I10, e14, hf⟩ := hf
    refine AW_iV1vz (w_X3_push (d := 0) hL e14) dX3_step_11 kl_X3_39 (hL.1 10 (by decide)) rfl (Nat.le_trans (by decide) hd) (by decide) (Nat.le_of_ble_eq_true rfl) (fun _ => ?_)
    refine AW_goto 106 dX3_step_14 (by decide) ?_
    exact AW_vret dX3_step_106 rfl (hq _ (Option.some.inj hf).symm)
theorem w_X3_step {G : rk_G} {l : Launch} {d : Nat} {n : Nat} {S : rk_Sh} {I : rk_I} {J : rk_J} {R : rk_R} {a1 : Int32} {a2 : Nat} {a3 : Int32} {I8 : rk_I} (hd : 2 ≤ d) (hS_a2 : S a2 = (5, 11)) (hL : rk_LC S R) (hf : f_X3_step I a1 a2 a3 = some I8) :
    CW G l yX3_step cX3_step 6 none d 0 0 [.ref 10, .int a1, .ref a2, .int a3] n S I J R (rk_qv n S I8 J R True) :=
  CW.of (by decide +kernel) (Nat.le_of_ble_eq_true rfl) (rk_sbs (rk_sbs (rk_sbs (rk_sbs (rk_sbe (rk_sbe rk_sb0)))))) (b_X3_step hd hS_a2 hL hf (fun I9 h9 => by cases h9; exact ⟨rfl, rfl, rfl, rfl, rfl, rfl, trivial⟩))
noncomputable def f_X3_value_l19 (S : rk_Sh) (I : rk_I) (R : rk_R) (u1 : Nat) (u3 : Nat) (u4 : Int32) (u5 : Int32) (s6 : Int32) : Option ((Int32 × rk_I) ⊕ (Int32 × rk_I)) :=
if u5 ≤ s6 then (
some (.inr (s6, I))) else (
(f_X7_codeAt S I R u1 s6).bind fun x1 =>
(f_X3_step I x1 u3 u4).bind fun I1 =>
some (.inl ((s6 + 1), I1)))
theorem b_X3_value_l19 {G : rk_G} {l : Launch} {d kc ks : Nat} {n : Nat} {S : rk_Sh} {I : rk_I} {J : rk_J} {R : rk_R} {Q : rk_Q} {u1 : Nat} {u3 : Nat} {u4 : Int32} {u5 : Int32} {s6 : Int32} {r : (Int32 × rk_I) ⊕ (Int32 × rk_I)} (hd : 3 ≤ d) (hS_u1 : S u1 = (7, 2)) (hS_u3 : S u3 = (5, 11)) (hL : rk_LC S R) (hf : f_X3_value_l19 S I R u1 u3 u4 u5 s6 = some r) (hc : ∀ (w0 : Int32) (I9 : rk_I), r = .inl (w0, I9) → AW G l yX3_value cX3_value 7 (some .int) d kc ks 19 [some (.ref 10), some (.ref u1), none, some (.ref u3), some (.int u4), some (.int u5), some (.int w0)] [] n S I9 J R Q) (he : ∀ (w0 : Int32) (I9 : rk_I), r = .inr (w0, I9) → AW G l yX3_value cX3_value 7 (some .int) d kc ks 45 [some (.ref 10), some (.ref u1), none, some (.ref u3), some (.int u4), some (.int u5), some (.int w0)] [] n S I9 J R Q) :
    AW G l yX3_value cX3_value 7 (some .int) d kc ks 19 [some (.ref 10), some (.ref u1), none, some (.ref u3), some (.int u4), some (.int u5), some (.int s6)] [] n S I J R Q := by
  unfold f_X3_value_l19 at hf
  refine AW_iload_6 dX3_value_19 ?_
  refine AW_iload_5 dX3_value_21 ?_
  refine AW_icmp_ge 45 dX3_value_23 (by decide) (fun h1 => ?_) (fun h1 => ?_)
  · replace hf := rk_it hf h1
    refine AW_sb (rk_sbs (rk_sbs (rk_sbn (rk_sbs (rk_sbs (rk_sbs (rk_sbs rk_sb0))))))) ?_
    exact he _ _ (Option.some.inj hf).symm
  · replace hf := rk_if hf h1
    refine AW_aload_n0 dX3_value_26 ?_
    refine AW_aload_n1 dX3_value_27 ?_
    refine AW_iload_6 dX3_value_28 ?_
    replace hf := rk_bd hf
    obtain ⟨x1, e1, hf⟩ := hf
    refine AW_iV1iz (w_X7_codeAt (d := 0) hS_u1 e1) dX3_value_30 kl_X3_26 hS_u1 rfl (Nat.le_trans (by decide) hd) (by decide) (Nat.le_of_ble_eq_true rfl) (fun _ => ?_)
    refine AW_aload_n3 dX3_value_33 ?_
    refine AW_iload_4 dX3_value_34 ?_
    replace hf := rk_bd hf
    obtain ⟨I1, e2, hf⟩ := hf
    refine AW_iV3vz (w_X3_step (d := 2) (Nat.le_refl _) hS_u3 hL e2) dX3_value_36 kl_X3_29 (hL.1 10 (by decide)) rfl (Nat.le_trans (by decide) hd) (by decide) (Nat.le_of_ble_eq_true rfl) (fun _ => ?_)
    refine AW_iinc_6 (v := 1) dX3_value_39 (by decide) (by decide) rfl ?_
    refine AW_goto 19 dX3_value_42 (by decide) ?_
    refine AW_sb (rk_sbs (rk_sbs (rk_sbn (rk_sbs (rk_sbs (rk_sbs (rk_sbs rk_sb0))))))) ?_
    exact hc _ _ (Option.some.inj hf).symm
theorem L_X3_value_w19 {G : rk_G} {l : Launch} {d kc ks : Nat} {n : Nat} {S : rk_Sh} {J : rk_J} {R : rk_R} {Q : rk_Q} {u1 : Nat} {u3 : Nat} {u4 : Int32} {u5 : Int32} {r : Int32 × rk_I} (hd : 3 ≤ d) (hS_u1 : S u1 = (7, 2)) (hS_u3 : S u3 = (5, 11)) (hL : rk_LC S R) (he : ∀ (w0 : Int32) (I9 : rk_I), r = (w0, I9) → AW G l yX3_value cX3_value 7 (some .int) d kc ks 45 [some (.ref 10), some (.ref u1), none, some (.ref u3), some (.int u4), some (.int u5), some (.int w0)] [] n S I9 J R Q) :
    ∀ (m9 : Nat) (s6 : Int32) (I : rk_I), rk_loop (fun a9 => f_X3_value_l19 S a9.2 R u1 u3 u4 u5 a9.1) m9 (s6, I) = some r → AW G l yX3_value cX3_value 7 (some .int) d kc ks 19 [some (.ref 10), some (.ref u1), none, some (.ref u3), some (.int u4), some (.int u5), some (.int s6)] [] n S I J R Q := by
  intro m9
  induction m9 with
  | zero => intro s6 I hf; cases hf
  | succ m9 ih =>
    intro s6 I hf 
    obtain ⟨r9, hf, hr⟩ := rk_loop_s hf
    exact b_X3_value_l19 hd hS_u1 hS_u3 hL hf (fun _ _ h9 => by subst h9; exact ih _ _ hr) (fun _ _ h9 => by subst h9; exact he _ _ hr.symm)
noncomputable def f_X3_value (S : rk_Sh) (I : rk_I) (R : rk_R) (a1 : Nat) (a2 : Int32) (a3 : Nat) (a4 : Int32) : Option (Int32 × rk_I) :=
(some (rk_ui I 10 1 0)).bind fun I1 =>
(f_X7_endOf S I1 R a1 a2).bind fun x1 =>
(f_X7_startOf S I1 R a1 a2).bind fun x2 =>
rk_b2 (rk_while (fun a9 => f_X3_value_l19 S a9.2 R a1 a3 a4 x1 a9.1) (x2, I1)) fun x3 I2 =>
rk_b2 (f_X3_pop I2) fun x4 I3 =>
some (x4, I3)
theorem b_X3_value {G : rk_G} {l : Launch} {d kc ks : Nat} {n : Nat} {S : rk_Sh} {I : rk_I} {J : rk_J} {R : rk_R} {Q : rk_Q} {a1 : Nat} {a2 : Int32} {a3 : Nat} {a4 : Int32} {r : Int32 × rk_I} (hd : 3 ≤ d) (hS_a1 : S a1 = (7, 2)) (hS_a3 : S a3 = (5, 11)) (hL : rk_LC S R) (hf : f_X3_value S I R a1 a2 a3 a4 = some r) (hq : ∀ (v9 : Int32) (I9 : rk_I), r = (v9, I9) → Q (some (.int v9)) n S I9 J R) :
    AW G l yX3_value cX3_value 7 (some .int) d kc ks 0 [some (.ref 10), some (.ref a1), some (.int a2), some (.ref a3), some (.int a4), none, none] [] n S I J R Q := by
  unfold f_X3_value at hf
  refine AW_aload_n0 dX3_value_0 ?_
  refine AW_iconst (v := 0) dX3_value_1 (by decide) ?_
  replace hf := rk_bd hf
  obtain ⟨I1, e1, hf⟩ := hf
  refine AW_puI dX3_value_2 kf_X3_13 rfl (hL.1 10 (by decide)) (by decide) e1 ?_
  refine AW_aload_n1 dX3_value_5 ?_
  refine AW_iload_n2 dX3_value_6 ?_
  replace hf := rk_bd hf
  obtain ⟨x1, e2, hf⟩ := hf
  refine AW_iV1iz (w_X7_endOf (d := 0) hS_a1 e2) dX3_value_7 kl_X3_17 hS_a1 rfl (Nat.le_trans (by decide) hd) (by decide) (Nat.le_of_ble_eq_true rfl) (fun _ => ?_)
  refine AW_istore_5 dX3_value_10 (by decide) rfl ?_
  refine AW_aload_n1 dX3_value_12 ?_
  refine AW_iload_n2 dX3_value_13 ?_
  replace hf := rk_bd hf
  obtain ⟨x2, e3, hf⟩ := hf
  refine AW_iV1iz (w_X7_startOf (d := 0) hS_a1 e3) dX3_value_14 kl_X3_23 hS_a1 rfl (Nat.le_trans (by decide) hd) (by decide) (Nat.le_of_ble_eq_true rfl) (fun _ => ?_)
  refine AW_istore_6 dX3_value_17 (by decide) rfl ?_
  refine AW_sb (rk_sbs (rk_sbs (rk_sbn (rk_sbs (rk_sbs (rk_sbs (rk_sbs rk_sb0))))))) ?_
  replace hf := rk_bd2 hf
  obtain ⟨x3, I2, e4, hf⟩ := hf
  obtain ⟨m1, e4⟩ := rk_while_sp e4
  refine L_X3_value_w19 (Nat.le_trans (by decide) hd) hS_a1 hS_a3 hL ?_ m1 _ _ e4
  intro x3 I2 h9
  cases h9
  refine AW_aload_n0 dX3_value_45 ?_
  replace hf := rk_bd2 hf
  obtain ⟨x4, I3, e5, hf⟩ := hf
  refine AW_iV0iz (w_X3_pop (d := 0) hL e5) dX3_value_46 kl_X3_33 (hL.1 10 (by decide)) rfl (Nat.le_trans (by decide) hd) (by decide) (Nat.le_of_ble_eq_true rfl) (fun _ => ?_)
  exact AW_iret dX3_value_49 rfl (hq _ _ (Option.some.inj hf).symm)
theorem w_X3_value {G : rk_G} {l : Launch} {d : Nat} {n : Nat} {S : rk_Sh} {I : rk_I} {J : rk_J} {R : rk_R} {a1 : Nat} {a2 : Int32} {a3 : Nat} {a4 : Int32} {v8 : Int32} {I8 : rk_I} (hd : 3 ≤ d) (hS_a1 : S a1 = (7, 2)) (hS_a3 : S a3 = (5, 11)) (hL : rk_LC S R) (hf : f_X3_value S I R a1 a2 a3 a4 = some (v8, I8)) :
    CW G l yX3_value cX3_value 7 (some .int) d 0 0 [.ref 10, .ref a1, .int a2, .ref a3, .int a4] n S I J R (rk_qi v8 n S I8 J R True) :=
  CW.of (by decide +kernel) (Nat.le_of_ble_eq_true rfl) (rk_sbs (rk_sbs (rk_sbs (rk_sbs (rk_sbs (rk_sbe (rk_sbe rk_sb0))))))) (b_X3_value hd hS_a1 hS_a3 hL hf (fun v9 I9 h9 => by cases h9; exact ⟨rfl, rfl, rfl, rfl, rfl, rfl, trivial⟩))
noncomputable def f_X9_ruled (S : rk_Sh) (I : rk_I) (R : rk_R) (a1 : Int32) (a2 : Nat) (a3 : Int32) : Option (Int32 × rk_I) :=
(rk_rdR R 3 6 (I 0 6)).bind fun q1 =>
(rk_dr S 7 2 q1).bind fun o1 =>
rk_b2 (f_X3_value S I R o1 a1 a2 a3) fun x1 I1 =>
some (x1, I1)
theorem b_X9_ruled {G : rk_G} {l : Launch} {d kc ks : Nat} {n : Nat} {S : rk_Sh} {I : rk_I} {J : rk_J} {R : rk_R} {Q : rk_Q} {a1 : Int32} {a2 : Nat} {a3 : Int32} {r : Int32 × rk_I} (hd : 4 ≤ d) (hS_a2 : S a2 = (5, 11)) (hL : rk_LC S R) (hf : f_X9_ruled S I R a1 a2 a3 = some r) (hq : ∀ (v9 : Int32) (I9 : rk_I), r = (v9, I9) → Q (some (.int v9)) n S I9 J R) :
    AW G l yX9_ruled cX9_ruled 4 (some .int) d kc ks 0 [some (.ref 0), some (.int a1), some (.ref a2), some (.int a3)] [] n S I J R Q := by
  unfold f_X9_ruled at hf
  refine AW_aload_n0 dX9_ruled_0 ?_
  refine AW_getR dX9_ruled_1 kf_X9_37 rfl (hL.1 0 (by decide)) (by decide) (hL.2 0 8 10 rfl) ?_
  refine AW_aload_n0 dX9_ruled_4 ?_
  refine AW_getR dX9_ruled_5 kf_X9_23 rfl (hL.1 0 (by decide)) (by decide) (hL.2 0 4 3 rfl) ?_
  refine AW_aload_n0 dX9_ruled_8 ?_
  refine AW_getI dX9_ruled_9 kf_X9_195 rfl (hL.1 0 (by decide)) (by decide) ?_
  replace hf := rk_bd hf
  obtain ⟨q1, e1, hf⟩ := hf
  refine AW_rdR dX9_ruled_12 (hL.1 3 (by decide)) (by decide) e1 ?_
  refine AW_iload_n1 dX9_ruled_13 ?_
  refine AW_aload_n2 dX9_ruled_14 ?_
  refine AW_iload_n3 dX9_ruled_15 ?_
  replace hf := rk_bd hf
  obtain ⟨o1, e2, hf⟩ := hf
  obtain ⟨e2, hS1⟩ := rk_dr_sp e2
  subst e2
  replace hf := rk_bd2 hf
  obtain ⟨x1, I1, e3, hf⟩ := hf
  refine AW_iV4iz (w_X3_value (d := 3) (Nat.le_refl _) hS1 hS_a2 hL e3) dX9_ruled_16 kl_X9_325 (hL.1 10 (by decide)) rfl (Nat.le_trans (by decide) hd) (by decide) (Nat.le_of_ble_eq_true rfl) (fun _ => ?_)
  exact AW_iret dX9_ruled_19 rfl (hq _ _ (Option.some.inj hf).symm)
theorem w_X9_ruled {G : rk_G} {l : Launch} {d : Nat} {n : Nat} {S : rk_Sh} {I : rk_I} {J : rk_J} {R : rk_R} {a1 : Int32} {a2 : Nat} {a3 : Int32} {v8 : Int32} {I8 : rk_I} (hd : 4 ≤ d) (hS_a2 : S a2 = (5, 11)) (hL : rk_LC S R) (hf : f_X9_ruled S I R a1 a2 a3 = some (v8, I8)) :
    CW G l yX9_ruled cX9_ruled 4 (some .int) d 0 0 [.ref 0, .int a1, .ref a2, .int a3] n S I J R (rk_qi v8 n S I8 J R True) :=
  CW.of (by decide +kernel) (Nat.le_of_ble_eq_true rfl) (rk_sbs (rk_sbs (rk_sbs (rk_sbs rk_sb0)))) (b_X9_ruled hd hS_a2 hL hf (fun v9 I9 h9 => by cases h9; exact ⟨rfl, rfl, rfl, rfl, rfl, rfl, trivial⟩))
noncomputable def f_X9_bounded (a0 : Int32) (a1 : Int32) : Option (Int32) :=
some (rk_max 0 (rk_min a0 a1))
theorem b_X9_bounded {G : rk_G} {l : Launch} {d kc ks : Nat} {n : Nat} {S : rk_Sh} {I : rk_I} {J : rk_J} {R : rk_R} {Q : rk_Q} {a0 : Int32} {a1 : Int32} {r : Int32} (hd : 1 ≤ d) (hf : f_X9_bounded a0 a1 = some r) (hq : ∀ (v9 : Int32), r = v9 → Q (some (.int v9)) n S I J R) :
    AW G l yX9_bounded cX9_bounded 2 (some .int) d kc ks 0 [some (.int a0), some (.int a1)] [] n S I J R Q := by
  unfold f_X9_bounded at hf
  refine AW_iconst (v := 0) dX9_bounded_0 (by decide) ?_
  refine AW_iload_n0 dX9_bounded_1 ?_
  refine AW_iload_n1 dX9_bounded_2 ?_
  refine AW_mmin dX9_bounded_3 km_X9_181 (Nat.le_trans (by decide) hd) (Nat.le_of_ble_eq_true rfl) ?_
  refine AW_mmax dX9_bounded_6 km_X9_186 (Nat.le_trans (by decide) hd) (Nat.le_of_ble_eq_true rfl) ?_
  exact AW_iret dX9_bounded_9 rfl (hq _ (Option.some.inj hf).symm)
theorem w_X9_bounded {G : rk_G} {l : Launch} {d : Nat} {n : Nat} {S : rk_Sh} {I : rk_I} {J : rk_J} {R : rk_R} {a0 : Int32} {a1 : Int32} {v8 : Int32} (hd : 1 ≤ d) (hf : f_X9_bounded a0 a1 = some v8) :
    CW G l yX9_bounded cX9_bounded 2 (some .int) d 0 0 [.int a0, .int a1] n S I J R (rk_qi v8 n S I J R True) :=
  CW.of (by decide +kernel) (Nat.le_of_ble_eq_true rfl) (rk_sbs (rk_sbs rk_sb0)) (b_X9_bounded hd hf (fun v9 h9 => by cases h9; exact ⟨rfl, rfl, rfl, rfl, rfl, rfl, trivial⟩))
noncomputable def f_X9_owedFor (S : rk_Sh) (I : rk_I) (R : rk_R) (a1 : Nat) (a2 : Int32) : Option (Int64 × rk_I) :=
if (I a1 6) ≤ a2 then (
rk_b2 (f_X9_ruled S I R 0 a1 a2) fun x1 I1 =>
(f_X9_bounded x1 9999).bind fun x2 =>
rk_b2 (f_X9_ruled S I1 R 1 a1 a2) fun x3 I2 =>
(f_X5_due I2 a1).bind fun x4 =>
(f_X9_bounded x3 x4).bind fun x5 =>
(f_X5_due I2 a1).bind fun x6 =>
some ((((x6 + x2) - x5) - (I2 a1 8)).toInt64, I2)) else (
some (0, I))
theorem b_X9_owedFor {G : rk_G} {l : Launch} {d kc ks : Nat} {n : Nat} {S : rk_Sh} {I : rk_I} {J : rk_J} {R : rk_R} {Q : rk_Q} {a1 : Nat} {a2 : Int32} {r : Int64 × rk_I} (hd : 5 ≤ d) (hS_a1 : S a1 = (5, 11)) (hL : rk_LC S R) (hf : f_X9_owedFor S I R a1 a2 = some r) (hq : ∀ (v9 : Int64) (I9 : rk_I), r = (v9, I9) → Q (some (.long v9)) n S I9 J R) :
    AW G l yX9_owedFor cX9_owedFor 5 (some .long) d kc ks 0 [some (.ref 0), some (.ref a1), some (.int a2), none, none] [] n S I J R Q := by
  unfold f_X9_owedFor at hf
  refine AW_iload_n2 dX9_owedFor_0 ?_
  refine AW_aload_n1 dX9_owedFor_1 ?_
  refine AW_getI dX9_owedFor_2 kf_X9_256 rfl hS_a1 (by decide) ?_
  refine AW_icmp_ge 10 dX9_owedFor_5 (by decide) (fun h1 => ?_) (fun h1 => ?_)
  · replace hf := rk_it hf h1
    refine AW_aload_n0 dX9_owedFor_10 ?_
    refine AW_iconst (v := 0) dX9_owedFor_11 (by decide) ?_
    refine AW_aload_n1 dX9_owedFor_12 ?_
    refine AW_iload_n2 dX9_owedFor_13 ?_
    replace hf := rk_bd2 hf
    obtain ⟨x1, I1, e1, hf⟩ := hf
    refine AW_iV3iz (w_X9_ruled (d := 4) (Nat.le_refl _) hS_a1 hL e1) dX9_owedFor_14 kl_X9_329 (hL.1 0 (by decide)) rfl (Nat.le_trans (by decide) hd) (by decide) (Nat.le_of_ble_eq_true rfl) (fun _ => ?_)
    refine AW_sipush (v := 9999) dX9_owedFor_17 (by decide) ?_
    replace hf := rk_bd hf
    obtain ⟨x2, e2, hf⟩ := hf
    refine AW_iS2iz (w_X9_bounded (d := 1) (Nat.le_refl _) e2) dX9_owedFor_20 kl_X9_333 (Nat.le_trans (by decide) hd) (by decide) (Nat.le_of_ble_eq_true rfl) (fun _ => ?_)
    refine AW_istore_n3 dX9_owedFor_23 (by decide) rfl ?_
    refine AW_aload_n0 dX9_owedFor_24 ?_
    refine AW_iconst (v := 1) dX9_owedFor_25 (by decide) ?_
    refine AW_aload_n1 dX9_owedFor_26 ?_
    refine AW_iload_n2 dX9_owedFor_27 ?_
    replace hf := rk_bd2 hf
    obtain ⟨x3, I2, e3, hf⟩ := hf
    refine AW_iV3iz (w_X9_ruled (d := 4) (Nat.le_refl _) hS_a1 hL e3) dX9_owedFor_28 kl_X9_329 (hL.1 0 (by decide)) rfl (Nat.le_trans (by decide) hd) (by decide) (Nat.le_of_ble_eq_true rfl) (fun _ => ?_)
    refine AW_aload_n1 dX9_owedFor_31 ?_
    replace hf := rk_bd hf
    obtain ⟨x4, e4, hf⟩ := hf
    refine AW_iV0iz (w_X5_due (d := 0) hS_a1 e4) dX9_owedFor_32 kl_X9_336 hS_a1 rfl (Nat.le_trans (by decide) hd) (by decide) (Nat.le_of_ble_eq_true rfl) (fun _ => ?_)
    replace hf := rk_bd hf
    obtain ⟨x5, e5, hf⟩ := hf
    refine AW_iS2iz (w_X9_bounded (d := 1) (Nat.le_refl _) e5) dX9_owedFor_35 kl_X9_333 (Nat.le_trans (by decide) hd) (by decide) (Nat.le_of_ble_eq_true rfl) (fun _ => ?_)
    refine AW_istore_4 dX9_owedFor_38 (by decide) rfl ?_
    refine AW_aload_n1 dX9_owedFor_40 ?_
    replace hf := rk_bd hf
    obtain ⟨x6, e6, hf⟩ := hf
    refine AW_iV0iz (w_X5_due (d := 0) hS_a1 e6) dX9_owedFor_41 kl_X9_336 hS_a1 rfl (Nat.le_trans (by decide) hd) (by decide) (Nat.le_of_ble_eq_true rfl) (fun _ => ?_)
    refine AW_iload_n3 dX9_owedFor_44 ?_
    refine AW_iadd dX9_owedFor_45 ?_
    refine AW_iload_4 dX9_owedFor_46 ?_
    refine AW_isub dX9_owedFor_48 ?_
    refine AW_aload_n1 dX9_owedFor_49 ?_
    refine AW_getI dX9_owedFor_50 kf_X9_142 rfl hS_a1 (by decide) ?_
    refine AW_isub dX9_owedFor_53 ?_
    refine AW_i2l dX9_owedFor_54 ?_
    exact AW_lret dX9_owedFor_55 rfl (hq _ _ (Option.some.inj hf).symm)
  · replace hf := rk_if hf h1
    refine AW_lconst (v := 0) dX9_owedFor_8 (by decide) ?_
    exact AW_lret dX9_owedFor_9 rfl (hq _ _ (Option.some.inj hf).symm)
theorem w_X9_owedFor {G : rk_G} {l : Launch} {d : Nat} {n : Nat} {S : rk_Sh} {I : rk_I} {J : rk_J} {R : rk_R} {a1 : Nat} {a2 : Int32} {v8 : Int64} {I8 : rk_I} (hd : 5 ≤ d) (hS_a1 : S a1 = (5, 11)) (hL : rk_LC S R) (hf : f_X9_owedFor S I R a1 a2 = some (v8, I8)) :
    CW G l yX9_owedFor cX9_owedFor 5 (some .long) d 0 0 [.ref 0, .ref a1, .int a2] n S I J R (rk_ql v8 n S I8 J R True) :=
  CW.of (by decide +kernel) (Nat.le_of_ble_eq_true rfl) (rk_sbs (rk_sbs (rk_sbs (rk_sbe (rk_sbe rk_sb0))))) (b_X9_owedFor hd hS_a1 hL hf (fun v9 I9 h9 => by cases h9; exact ⟨rfl, rfl, rfl, rfl, rfl, rfl, trivial⟩))
noncomputable def f_X9_owes (S : rk_Sh) (I : rk_I) (R : rk_R) (a1 : Int32) (a2 : Int32) : Option (Int64 × rk_I) :=
(f_X9_saleAt I R a1).bind fun q1 =>
rk_oc q1 (
some ((-4611686018427387904), I)) (fun o1 => (
(f_X9_isHour a2).bind fun x1 =>
if x1 = 0 then (
some ((-4611686018427387904), I)) else (
rk_b2 (f_X9_owedFor S I R o1 a2) fun x2 I1 =>
(rk_ck S o1 5 11).bind fun _ =>
some (x2, I1))))
theorem b_X9_owes {G : rk_G} {l : Launch} {d kc ks : Nat} {n : Nat} {S : rk_Sh} {I : rk_I} {J : rk_J} {R : rk_R} {Q : rk_Q} {a1 : Int32} {a2 : Int32} {r : Int64 × rk_I} (hd : 6 ≤ d) (hL : rk_LC S R) (hf : f_X9_owes S I R a1 a2 = some r) (hq : ∀ (v9 : Int64) (I9 : rk_I), r = (v9, I9) → Q (some (.long v9)) n S I9 J R) :
    AW G l yX9_owes cX9_owes 4 (some .long) d kc ks 0 [some (.ref 0), some (.int a1), some (.int a2), none] [] n S I J R Q := by
  unfold f_X9_owes at hf
  refine AW_aload_n0 dX9_owes_0 ?_
  refine AW_iload_n1 dX9_owes_1 ?_
  replace hf := rk_bd hf
  obtain ⟨q1, e1, hf⟩ := hf
  refine AW_iV1oz (w_X9_saleAt (d := 0) hL e1) dX9_owes_2 kl_X9_131 (hL.1 0 (by decide)) rfl (Nat.le_trans (by decide) hd) (by decide) (Nat.le_of_ble_eq_true rfl) (fun _ => ?_)
  refine AW_astoreO_n3 dX9_owes_5 (by decide) rfl ?_
  refine AW_aloadO_n3 dX9_owes_6 ?_
  rcases q1 with _ | o1
  · replace hf := rk_oc_n hf
    refine AW_ifnullN 17 dX9_owes_7 (by decide) ?_
    refine AW_ldc2 dX9_owes_17 kv_X9_156 ?_
    refine AW_goto 29 dX9_owes_20 (by decide) ?_
    exact AW_lret dX9_owes_29 rfl (hq _ _ (Option.some.inj hf).symm)
  · replace hf := rk_oc_s hf
    refine AW_ifnull dX9_owes_7 ?_
    refine AW_iload_n2 dX9_owes_10 ?_
    replace hf := rk_bd hf
    obtain ⟨x1, e2, hf⟩ := hf
    refine AW_iS1iz (w_X9_isHour (d := 0) e2) dX9_owes_11 kl_X9_122 (Nat.le_trans (by decide) hd) (by decide) (Nat.le_of_ble_eq_true rfl) (fun _ => ?_)
    refine AW_if_ne 23 dX9_owes_14 (by decide) (fun h1 => ?_) (fun h1 => ?_)
    · replace hf := rk_if hf h1
      refine AW_aload_n0 dX9_owes_23 ?_
      refine AW_aload_n3 dX9_owes_24 ?_
      refine AW_iload_n2 dX9_owes_25 ?_
      replace hf := rk_bd2 hf
      obtain ⟨x2, I1, e3, hf⟩ := hf
      replace hf := rk_bd hf
      obtain ⟨_, e4, hf⟩ := hf
      have e4 := rk_ck_sp e4
      refine AW_iV2lz (w_X9_owedFor (d := 5) (Nat.le_refl _) e4 hL e3) dX9_owes_26 kl_X9_198 (hL.1 0 (by decide)) rfl (Nat.le_trans (by decide) hd) (by decide) (Nat.le_of_ble_eq_true rfl) (fun _ => ?_)
      exact AW_lret dX9_owes_29 rfl (hq _ _ (Option.some.inj hf).symm)
    · replace hf := rk_it hf h1
      refine AW_ldc2 dX9_owes_17 kv_X9_156 ?_
      refine AW_goto 29 dX9_owes_20 (by decide) ?_
      exact AW_lret dX9_owes_29 rfl (hq _ _ (Option.some.inj hf).symm)
theorem w_X9_owes {G : rk_G} {l : Launch} {d : Nat} {n : Nat} {S : rk_Sh} {I : rk_I} {J : rk_J} {R : rk_R} {a1 : Int32} {a2 : Int32} {v8 : Int64} {I8 : rk_I} (hd : 6 ≤ d) (hL : rk_LC S R) (hf : f_X9_owes S I R a1 a2 = some (v8, I8)) :
    CW G l yX9_owes cX9_owes 4 (some .long) d 0 0 [.ref 0, .int a1, .int a2] n S I J R (rk_ql v8 n S I8 J R True) :=
  CW.of (by decide +kernel) (Nat.le_of_ble_eq_true rfl) (rk_sbs (rk_sbs (rk_sbs (rk_sbe rk_sb0)))) (b_X9_owes hd hL hf (fun v9 I9 h9 => by cases h9; exact ⟨rfl, rfl, rfl, rfl, rfl, rfl, trivial⟩))
noncomputable def f_X10_within (a0 : Int32) (a1 : Int32) (a2 : Int32) : Option (Int32) :=
if a1 ≤ a0 then (
if a0 ≤ a2 then (
some a0) else (
some a2)) else (
some a1)
theorem b_X10_within {G : rk_G} {l : Launch} {d kc ks : Nat} {n : Nat} {S : rk_Sh} {I : rk_I} {J : rk_J} {R : rk_R} {Q : rk_Q} {a0 : Int32} {a1 : Int32} {a2 : Int32} {r : Int32} (hf : f_X10_within a0 a1 a2 = some r) (hq : ∀ (v9 : Int32), r = v9 → Q (some (.int v9)) n S I J R) :
    AW G l yX10_within cX10_within 3 (some .int) d kc ks 0 [some (.int a0), some (.int a1), some (.int a2)] [] n S I J R Q := by
  unfold f_X10_within at hf
  refine AW_iload_n0 dX10_within_0 ?_
  refine AW_iload_n1 dX10_within_1 ?_
  refine AW_icmp_ge 9 dX10_within_2 (by decide) (fun h1 => ?_) (fun h1 => ?_)
  · replace hf := rk_it hf h1
    refine AW_iload_n0 dX10_within_9 ?_
    refine AW_iload_n2 dX10_within_10 ?_
    refine AW_icmp_le 18 dX10_within_11 (by decide) (fun h2 => ?_) (fun h2 => ?_)
    · replace hf := rk_it hf h2
      refine AW_iload_n0 dX10_within_18 ?_
      exact AW_iret dX10_within_19 rfl (hq _ (Option.some.inj hf).symm)
    · replace hf := rk_if hf h2
      refine AW_iload_n2 dX10_within_14 ?_
      refine AW_goto 19 dX10_within_15 (by decide) ?_
      exact AW_iret dX10_within_19 rfl (hq _ (Option.some.inj hf).symm)
  · replace hf := rk_if hf h1
    refine AW_iload_n1 dX10_within_5 ?_
    refine AW_goto 19 dX10_within_6 (by decide) ?_
    exact AW_iret dX10_within_19 rfl (hq _ (Option.some.inj hf).symm)
theorem w_X10_within {G : rk_G} {l : Launch} {d : Nat} {n : Nat} {S : rk_Sh} {I : rk_I} {J : rk_J} {R : rk_R} {a0 : Int32} {a1 : Int32} {a2 : Int32} {v8 : Int32} (hf : f_X10_within a0 a1 a2 = some v8) :
    CW G l yX10_within cX10_within 3 (some .int) d 0 0 [.int a0, .int a1, .int a2] n S I J R (rk_qi v8 n S I J R True) :=
  CW.of (by decide +kernel) (Nat.le_of_ble_eq_true rfl) (rk_sbs (rk_sbs (rk_sbs rk_sb0))) (b_X10_within hf (fun v9 h9 => by cases h9; exact ⟨rfl, rfl, rfl, rfl, rfl, rfl, trivial⟩))
noncomputable def f_X10_owesOf (I : rk_I) (J : rk_J) (a1 : Int32) (a2 : Int32) : Option (Int64 × rk_I × rk_J) :=
(rk_rd I 44 24 a1).bind fun x1 =>
if x1 ≤ a2 then (
(f_X10_dueOf I a1).bind fun x2 =>
rk_b3 (f_X10_read I J (I 31 4) a1 a2 0) fun x3 I1 J1 =>
(f_X10_within x3 0 9999).bind fun x4 =>
rk_b3 (f_X10_read I1 J1 (I1 31 4) a1 a2 1) fun x5 I2 J2 =>
(f_X10_dueOf I2 a1).bind fun x6 =>
(f_X10_within x5 0 x6).bind fun x7 =>
(rk_rd I2 46 24 a1).bind fun x8 =>
some ((((x2.toInt64 + x4.toInt64) - x7.toInt64) - x8.toInt64), I2, J2)) else (
some (0, I, J))
theorem b_X10_owesOf {G : rk_G} {l : Launch} {d kc ks : Nat} {n : Nat} {S : rk_Sh} {I : rk_I} {J : rk_J} {R : rk_R} {Q : rk_Q} {a1 : Int32} {a2 : Int32} {r : Int64 × rk_I × rk_J} (hd : 67 ≤ d) (hM : rk_LM S R) (hf : f_X10_owesOf I J a1 a2 = some r) (hq : ∀ (v9 : Int64) (I9 : rk_I) (J9 : rk_J), r = (v9, I9, J9) → Q (some (.long v9)) n S I9 J9 R) :
    AW G l yX10_owesOf cX10_owesOf 3 (some .long) d kc ks 0 [some (.ref 31), some (.int a1), some (.int a2)] [] n S I J R Q := by
  unfold f_X10_owesOf at hf
  refine AW_iload_n2 dX10_owesOf_0 ?_
  refine AW_aload_n0 dX10_owesOf_1 ?_
  refine AW_getR dX10_owesOf_2 kf_X10_50 rfl (hM.1 31 (by decide) (by decide)) (by decide) (hM.2 31 17 44 rfl) ?_
  refine AW_iload_n1 dX10_owesOf_5 ?_
  replace hf := rk_bd hf
  obtain ⟨x1, e1, hf⟩ := hf
  refine AW_rd dX10_owesOf_6 (hM.1 44 (by decide) (by decide)) e1 ?_
  refine AW_icmp_ge 12 dX10_owesOf_7 (by decide) (fun h1 => ?_) (fun h1 => ?_)
  · replace hf := rk_it hf h1
    refine AW_aload_n0 dX10_owesOf_12 ?_
    refine AW_iload_n1 dX10_owesOf_13 ?_
    replace hf := rk_bd hf
    obtain ⟨x2, e2, hf⟩ := hf
    refine AW_iV1iz (w_X10_dueOf (d := 0) hM e2) dX10_owesOf_14 kl_X10_254 (hM.1 31 (by decide) (by decide)) rfl (Nat.le_trans (by decide) hd) (by decide) (Nat.le_of_ble_eq_true rfl) (fun _ => ?_)
    refine AW_i2l dX10_owesOf_17 ?_
    refine AW_aload_n0 dX10_owesOf_18 ?_
    refine AW_aload_n0 dX10_owesOf_19 ?_
    refine AW_getI dX10_owesOf_20 kf_X10_309 rfl (hM.1 31 (by decide) (by decide)) (by decide) ?_
    refine AW_iload_n1 dX10_owesOf_23 ?_
    refine AW_iload_n2 dX10_owesOf_24 ?_
    refine AW_iconst (v := 0) dX10_owesOf_25 (by decide) ?_
    replace hf := rk_bd3 hf
    obtain ⟨x3, I1, J1, e3, hf⟩ := hf
    refine AW_iV4iz (w_X10_read (d := 66) (Nat.le_refl _) hM e3) dX10_owesOf_26 kl_X10_305 (hM.1 31 (by decide) (by decide)) rfl (Nat.le_trans (by decide) hd) (by decide) (Nat.le_of_ble_eq_true rfl) (fun _ => ?_)
    refine AW_iconst (v := 0) dX10_owesOf_29 (by decide) ?_
    refine AW_sipush (v := 9999) dX10_owesOf_30 (by decide) ?_
    replace hf := rk_bd hf
    obtain ⟨x4, e4, hf⟩ := hf
    refine AW_iS3iz (w_X10_within (d := 0) e4) dX10_owesOf_33 kl_X10_312 (Nat.le_trans (by decide) hd) (by decide) (Nat.le_of_ble_eq_true rfl) (fun _ => ?_)
    refine AW_i2l dX10_owesOf_36 ?_
    refine AW_ladd dX10_owesOf_37 ?_
    refine AW_aload_n0 dX10_owesOf_38 ?_
    refine AW_aload_n0 dX10_owesOf_39 ?_
    refine AW_getI dX10_owesOf_40 kf_X10_309 rfl (hM.1 31 (by decide) (by decide)) (by decide) ?_
    refine AW_iload_n1 dX10_owesOf_43 ?_
    refine AW_iload_n2 dX10_owesOf_44 ?_
    refine AW_iconst (v := 1) dX10_owesOf_45 (by decide) ?_
    replace hf := rk_bd3 hf
    obtain ⟨x5, I2, J2, e5, hf⟩ := hf
    refine AW_iV4iz (w_X10_read (d := 66) (Nat.le_refl _) hM e5) dX10_owesOf_46 kl_X10_305 (hM.1 31 (by decide) (by decide)) rfl (Nat.le_trans (by decide) hd) (by decide) (Nat.le_of_ble_eq_true rfl) (fun _ => ?_)
    refine AW_iconst (v := 0) dX10_owesOf_49 (by decide) ?_
    refine AW_aload_n0 dX10_owesOf_50 ?_
    refine AW_iload_n1 dX10_owesOf_51 ?_
    replace hf := rk_bd hf
    obtain ⟨x6, e6, hf⟩ := hf
    refine AW_iV1iz (w_X10_dueOf (d := 0) hM e6) dX10_owesOf_52 kl_X10_254 (hM.1 31 (by decide) (by decide)) rfl (Nat.le_trans (by decide) hd) (by decide) (Nat.le_of_ble_eq_true rfl) (fun _ => ?_)
    replace hf := rk_bd hf
    obtain ⟨x7, e7, hf⟩ := hf
    refine AW_iS3iz (w_X10_within (d := 0) e7) dX10_owesOf_55 kl_X10_312 (Nat.le_trans (by decide) hd) (by decide) (Nat.le_of_ble_eq_true rfl) (fun _ => ?_)
    refine AW_i2l dX10_owesOf_58 ?_
    refine AW_lsub dX10_owesOf_59 ?_
    refine AW_aload_n0 dX10_owesOf_60 ?_
    refine AW_getR dX10_owesOf_61 kf_X10_56 rfl (hM.1 31 (by decide) (by decide)) (by decide) (hM.2 31 19 46 rfl) ?_
    refine AW_iload_n1 dX10_owesOf_64 ?_
    replace hf := rk_bd hf
    obtain ⟨x8, e8, hf⟩ := hf
    refine AW_rd dX10_owesOf_65 (hM.1 46 (by decide) (by decide)) e8 ?_
    refine AW_i2l dX10_owesOf_66 ?_
    refine AW_lsub dX10_owesOf_67 ?_
    exact AW_lret dX10_owesOf_68 rfl (hq _ _ _ (Option.some.inj hf).symm)
  · replace hf := rk_if hf h1
    refine AW_lconst (v := 0) dX10_owesOf_10 (by decide) ?_
    exact AW_lret dX10_owesOf_11 rfl (hq _ _ _ (Option.some.inj hf).symm)
theorem w_X10_owesOf {G : rk_G} {l : Launch} {d : Nat} {n : Nat} {S : rk_Sh} {I : rk_I} {J : rk_J} {R : rk_R} {a1 : Int32} {a2 : Int32} {v8 : Int64} {I8 : rk_I} {J8 : rk_J} (hd : 67 ≤ d) (hM : rk_LM S R) (hf : f_X10_owesOf I J a1 a2 = some (v8, I8, J8)) :
    CW G l yX10_owesOf cX10_owesOf 3 (some .long) d 0 0 [.ref 31, .int a1, .int a2] n S I J R (rk_ql v8 n S I8 J8 R True) :=
  CW.of (by decide +kernel) (Nat.le_of_ble_eq_true rfl) (rk_sbs (rk_sbs (rk_sbs rk_sb0))) (b_X10_owesOf hd hM hf (fun v9 I9 J9 h9 => by cases h9; exact ⟨rfl, rfl, rfl, rfl, rfl, rfl, trivial⟩))
