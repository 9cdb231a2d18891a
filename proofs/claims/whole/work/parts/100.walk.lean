noncomputable def f_X9_isAmount (a0 : Int32) : Option (Int32) :=
if a0 < 1 then (
some 0) else (
if 999 < a0 then (
some 0) else (
some 1))
theorem b_X9_isAmount {G : rk_G} {l : Launch} {d kc ks : Nat} {n : Nat} {S : rk_Sh} {I : rk_I} {J : rk_J} {R : rk_R} {Q : rk_Q} {a0 : Int32} {r : Int32} (hf : f_X9_isAmount a0 = some r) (hq : ∀ (v9 : Int32), r = v9 → Q (some (.int v9)) n S I J R) :
    AW G l yX9_isAmount cX9_isAmount 1 (some .boolean) d kc ks 0 [some (.int a0)] [] n S I J R Q := by
  unfold f_X9_isAmount at hf
  refine AW_iload_n0 dX9_isAmount_0 ?_
  refine AW_iconst (v := 1) dX9_isAmount_1 (by decide) ?_
  refine AW_icmp_lt 16 dX9_isAmount_2 (by decide) (fun h1 => ?_) (fun h1 => ?_)
  · replace hf := rk_it hf h1
    refine AW_iconst (v := 0) dX9_isAmount_16 (by decide) ?_
    exact AW_zret dX9_isAmount_17 rfl rfl (hq _ (Option.some.inj hf).symm)
  · replace hf := rk_if hf h1
    refine AW_iload_n0 dX9_isAmount_5 ?_
    refine AW_sipush (v := 999) dX9_isAmount_6 (by decide) ?_
    refine AW_icmp_gt 16 dX9_isAmount_9 (by decide) (fun h2 => ?_) (fun h2 => ?_)
    · replace hf := rk_it hf h2
      refine AW_iconst (v := 0) dX9_isAmount_16 (by decide) ?_
      exact AW_zret dX9_isAmount_17 rfl rfl (hq _ (Option.some.inj hf).symm)
    · replace hf := rk_if hf h2
      refine AW_iconst (v := 1) dX9_isAmount_12 (by decide) ?_
      refine AW_goto 17 dX9_isAmount_13 (by decide) ?_
      exact AW_zret dX9_isAmount_17 rfl rfl (hq _ (Option.some.inj hf).symm)
theorem w_X9_isAmount {G : rk_G} {l : Launch} {d : Nat} {n : Nat} {S : rk_Sh} {I : rk_I} {J : rk_J} {R : rk_R} {a0 : Int32} {v8 : Int32} (hf : f_X9_isAmount a0 = some v8) :
    CW G l yX9_isAmount cX9_isAmount 1 (some .boolean) d 0 0 [.int a0] n S I J R (rk_qi v8 n S I J R True) :=
  CW.of (by decide +kernel) (Nat.le_of_ble_eq_true rfl) (rk_sbs rk_sb0) (b_X9_isAmount hf (fun v9 h9 => by cases h9; exact ⟨rfl, rfl, rfl, rfl, rfl, rfl, trivial⟩))
noncomputable def f_X9_isHand (a0 : Int32) : Option (Int32) :=
if a0 < 0 then (
some 0) else (
if 10 ≤ a0 then (
some 0) else (
some 1))
theorem b_X9_isHand {G : rk_G} {l : Launch} {d kc ks : Nat} {n : Nat} {S : rk_Sh} {I : rk_I} {J : rk_J} {R : rk_R} {Q : rk_Q} {a0 : Int32} {r : Int32} (hf : f_X9_isHand a0 = some r) (hq : ∀ (v9 : Int32), r = v9 → Q (some (.int v9)) n S I J R) :
    AW G l yX9_isHand cX9_isHand 1 (some .boolean) d kc ks 0 [some (.int a0)] [] n S I J R Q := by
  unfold f_X9_isHand at hf
  refine AW_iload_n0 dX9_isHand_0 ?_
  refine AW_if_lt 14 dX9_isHand_1 (by decide) (fun h1 => ?_) (fun h1 => ?_)
  · replace hf := rk_it hf h1
    refine AW_iconst (v := 0) dX9_isHand_14 (by decide) ?_
    exact AW_zret dX9_isHand_15 rfl rfl (hq _ (Option.some.inj hf).symm)
  · replace hf := rk_if hf h1
    refine AW_iload_n0 dX9_isHand_4 ?_
    refine AW_bipush (v := 10) dX9_isHand_5 (by decide) ?_
    refine AW_icmp_ge 14 dX9_isHand_7 (by decide) (fun h2 => ?_) (fun h2 => ?_)
    · replace hf := rk_it hf h2
      refine AW_iconst (v := 0) dX9_isHand_14 (by decide) ?_
      exact AW_zret dX9_isHand_15 rfl rfl (hq _ (Option.some.inj hf).symm)
    · replace hf := rk_if hf h2
      refine AW_iconst (v := 1) dX9_isHand_10 (by decide) ?_
      refine AW_goto 15 dX9_isHand_11 (by decide) ?_
      exact AW_zret dX9_isHand_15 rfl rfl (hq _ (Option.some.inj hf).symm)
theorem w_X9_isHand {G : rk_G} {l : Launch} {d : Nat} {n : Nat} {S : rk_Sh} {I : rk_I} {J : rk_J} {R : rk_R} {a0 : Int32} {v8 : Int32} (hf : f_X9_isHand a0 = some v8) :
    CW G l yX9_isHand cX9_isHand 1 (some .boolean) d 0 0 [.int a0] n S I J R (rk_qi v8 n S I J R True) :=
  CW.of (by decide +kernel) (Nat.le_of_ble_eq_true rfl) (rk_sbs rk_sb0) (b_X9_isHand hf (fun v9 h9 => by cases h9; exact ⟨rfl, rfl, rfl, rfl, rfl, rfl, trivial⟩))
noncomputable def f_X0_init (n : Nat) (S : rk_Sh) (I : rk_I) (J : rk_J) (R : rk_R) (a0 : Nat) (a1 : Int32) (a2 : Int32) (a3 : Int32) : Option (Nat × rk_Sh × rk_I × rk_J × rk_R) :=
(rk_nck n).bind fun _ =>
(some (rk_sh S n 20 3)).bind fun S1 =>
(some (rk_zi I n)).bind fun I1 =>
(some (rk_zj J n)).bind fun J1 =>
(some (rk_zr R n)).bind fun R1 =>
(rk_wrD S1 I1 n 0 (-1)).bind fun I2 =>
(rk_wrD S1 I2 n 1 (-1)).bind fun I3 =>
(rk_wrD S1 I3 n 2 (-1)).bind fun I4 =>
(rk_ck S1 a0 0 5).bind fun _ =>
(some (rk_ur R1 a0 3 (some n))).bind fun R2 =>
(rk_nck (n + 1)).bind fun _ =>
(some (rk_sh S1 (n + 1) 20 3)).bind fun S2 =>
(some (rk_zi I4 (n + 1))).bind fun I5 =>
(some (rk_zj J1 (n + 1))).bind fun J2 =>
(some (rk_zr R2 (n + 1))).bind fun R3 =>
(rk_wrD S2 I5 (n + 1) 0 (-1)).bind fun I6 =>
(rk_wrD S2 I6 (n + 1) 1 (-1)).bind fun I7 =>
(rk_wrD S2 I7 (n + 1) 2 (-1)).bind fun I8 =>
(rk_ck S2 a0 0 5).bind fun _ =>
(some (rk_ur R3 a0 4 (some (n + 1)))).bind fun R4 =>
(some (rk_ui I8 a0 0 a1)).bind fun I9 =>
(some (rk_ui I9 a0 1 a2)).bind fun I10 =>
(some (rk_ui I10 a0 2 a3)).bind fun I11 =>
some (((n + 1) + 1), S2, I11, J2, R4)
theorem b_X0_init {G : rk_G} {l : Launch} {d : Nat} {n : Nat} {S : rk_Sh} {I : rk_I} {J : rk_J} {R : rk_R} {Q : rk_Q} {a0 : Nat} {a1 : Int32} {a2 : Int32} {a3 : Int32} {r : Nat × rk_Sh × rk_I × rk_J × rk_R} (hd : 1 ≤ d) (hS_a0 : S a0 = (0, 5)) (hf : f_X0_init n S I J R a0 a1 a2 a3 = some r) (hq : ∀ (n9 : Nat) (S9 : rk_Sh) (I9 : rk_I) (J9 : rk_J) (R9 : rk_R), r = (n9, S9, I9, J9, R9) → Q (none) n9 S9 I9 J9 R9) :
    AW G l yX0_init cX0_init 4 none d 2 6 0 [some (.ref a0), some (.int a1), some (.int a2), some (.int a3)] [] n S I J R Q := by
  unfold f_X0_init at hf
  refine AW_aload_n0 dX0_init_0 ?_
  refine AW_objInit dX0_init_1 ko_X0_3 (Nat.le_trans (by decide) hd) (Nat.le_of_ble_eq_true rfl) ?_
  refine AW_aload_n0 dX0_init_4 ?_
  refine AW_iconst (v := 3) dX0_init_5 (by decide) ?_
  replace hf := rk_bd hf
  obtain ⟨_, e1, hf⟩ := hf
  have e1 := rk_nck_sp e1
  replace hf := rk_bd hf
  obtain ⟨S1, e2, hf⟩ := hf
  replace hf := rk_bd hf
  obtain ⟨I1, e3, hf⟩ := hf
  replace hf := rk_bd hf
  obtain ⟨J1, e4, hf⟩ := hf
  replace hf := rk_bd hf
  obtain ⟨R1, e5, hf⟩ := hf
  refine AW_nwI (N := 3) dX0_init_6 kA_int (by decide) (by decide) (by decide) e1 e2 e3 e4 e5 ?_
  refine AW_dup dX0_init_8 rfl ?_
  refine AW_iconst (v := 0) dX0_init_9 (by decide) ?_
  refine AW_iconst (v := (-1)) dX0_init_10 (by decide) ?_
  replace hf := rk_bd hf
  obtain ⟨I2, e6, hf⟩ := hf
  refine AW_wrD dX0_init_11 e6 ?_
  refine AW_dup dX0_init_12 rfl ?_
  refine AW_iconst (v := 1) dX0_init_13 (by decide) ?_
  refine AW_iconst (v := (-1)) dX0_init_14 (by decide) ?_
  replace hf := rk_bd hf
  obtain ⟨I3, e7, hf⟩ := hf
  refine AW_wrD dX0_init_15 e7 ?_
  refine AW_dup dX0_init_16 rfl ?_
  refine AW_iconst (v := 2) dX0_init_17 (by decide) ?_
  refine AW_iconst (v := (-1)) dX0_init_18 (by decide) ?_
  replace hf := rk_bd hf
  obtain ⟨I4, e8, hf⟩ := hf
  refine AW_wrD dX0_init_19 e8 ?_
  replace hf := rk_bd hf
  obtain ⟨_, e9, hf⟩ := hf
  have e9 := rk_ck_sp e9
  replace hf := rk_bd hf
  obtain ⟨R2, e10, hf⟩ := hf
  refine AW_puAF dX0_init_20 kf_X0_9 rfl e9 (by decide) rfl rfl e10 ?_
  refine AW_aload_n0 dX0_init_23 ?_
  refine AW_iconst (v := 3) dX0_init_24 (by decide) ?_
  replace hf := rk_bd hf
  obtain ⟨_, e11, hf⟩ := hf
  have e11 := rk_nck_sp e11
  replace hf := rk_bd hf
  obtain ⟨S2, e12, hf⟩ := hf
  replace hf := rk_bd hf
  obtain ⟨I5, e13, hf⟩ := hf
  replace hf := rk_bd hf
  obtain ⟨J2, e14, hf⟩ := hf
  replace hf := rk_bd hf
  obtain ⟨R3, e15, hf⟩ := hf
  refine AW_nwI (N := 3) dX0_init_25 kA_int (by decide) (by decide) (by decide) e11 e12 e13 e14 e15 ?_
  refine AW_dup dX0_init_27 rfl ?_
  refine AW_iconst (v := 0) dX0_init_28 (by decide) ?_
  refine AW_iconst (v := (-1)) dX0_init_29 (by decide) ?_
  replace hf := rk_bd hf
  obtain ⟨I6, e16, hf⟩ := hf
  refine AW_wrD dX0_init_30 e16 ?_
  refine AW_dup dX0_init_31 rfl ?_
  refine AW_iconst (v := 1) dX0_init_32 (by decide) ?_
  refine AW_iconst (v := (-1)) dX0_init_33 (by decide) ?_
  replace hf := rk_bd hf
  obtain ⟨I7, e17, hf⟩ := hf
  refine AW_wrD dX0_init_34 e17 ?_
  refine AW_dup dX0_init_35 rfl ?_
  refine AW_iconst (v := 2) dX0_init_36 (by decide) ?_
  refine AW_iconst (v := (-1)) dX0_init_37 (by decide) ?_
  replace hf := rk_bd hf
  obtain ⟨I8, e18, hf⟩ := hf
  refine AW_wrD dX0_init_38 e18 ?_
  replace hf := rk_bd hf
  obtain ⟨_, e19, hf⟩ := hf
  have e19 := rk_ck_sp e19
  replace hf := rk_bd hf
  obtain ⟨R4, e20, hf⟩ := hf
  refine AW_puAF dX0_init_39 kf_X0_15 rfl e19 (by decide) rfl rfl e20 ?_
  refine AW_aload_n0 dX0_init_42 ?_
  refine AW_iload_n1 dX0_init_43 ?_
  replace hf := rk_bd hf
  obtain ⟨I9, e21, hf⟩ := hf
  refine AW_puIF dX0_init_44 kf_X0_18 rfl e19 (by decide) rfl rfl e21 ?_
  refine AW_aload_n0 dX0_init_47 ?_
  refine AW_iload_n2 dX0_init_48 ?_
  replace hf := rk_bd hf
  obtain ⟨I10, e22, hf⟩ := hf
  refine AW_puIF dX0_init_49 kf_X0_22 rfl e19 (by decide) rfl rfl e22 ?_
  refine AW_aload_n0 dX0_init_52 ?_
  refine AW_iload_n3 dX0_init_53 ?_
  replace hf := rk_bd hf
  obtain ⟨I11, e23, hf⟩ := hf
  refine AW_puIF dX0_init_54 kf_X0_25 rfl e19 (by decide) rfl rfl e23 ?_
  exact AW_vret dX0_init_57 rfl (hq _ _ _ _ _ (Option.some.inj hf).symm)
theorem w_X0_init {G : rk_G} {l : Launch} {d : Nat} {n : Nat} {S : rk_Sh} {I : rk_I} {J : rk_J} {R : rk_R} {a0 : Nat} {a1 : Int32} {a2 : Int32} {a3 : Int32} {n8 : Nat} {S8 : rk_Sh} {I8 : rk_I} {J8 : rk_J} {R8 : rk_R} (hd : 1 ≤ d) (hS_a0 : S a0 = (0, 5)) (hf : f_X0_init n S I J R a0 a1 a2 a3 = some (n8, S8, I8, J8, R8)) :
    CW G l yX0_init cX0_init 4 none d 2 6 [.ref a0, .int a1, .int a2, .int a3] n S I J R (rk_qv n8 S8 I8 J8 R8 True) :=
  CW.of (by decide +kernel) (Nat.le_of_ble_eq_true rfl) (rk_sbs (rk_sbs (rk_sbs (rk_sbs rk_sb0)))) (b_X0_init hd hS_a0 hf (fun n9 S9 I9 J9 R9 h9 => by cases h9; exact ⟨rfl, rfl, rfl, rfl, rfl, rfl, trivial⟩))
noncomputable def f_X9_cargo (n : Nat) (S : rk_Sh) (I : rk_I) (J : rk_J) (R : rk_R) (a1 : Int32) (a2 : Int32) : Option (Int32 × Nat × rk_Sh × rk_I × rk_J × rk_R) :=
(f_X9_isAmount a1).bind fun x1 =>
if x1 = 0 then (
some ((-2), n, S, I, J, R)) else (
(f_X9_isHand a2).bind fun x2 =>
if x2 = 0 then (
some ((-2), n, S, I, J, R)) else (
if (I 0 1) < 4 then (
(rk_nck n).bind fun _ =>
(some (rk_sh S n 0 5)).bind fun S1 =>
(some (rk_zi I n)).bind fun I1 =>
(some (rk_zj J n)).bind fun J1 =>
(some (rk_zr R n)).bind fun R1 =>
(rk_layC S1 R1).bind fun _ =>
rk_b5 (f_X0_init (n + 1) S1 I1 J1 R1 n (I1 0 1) a1 a2) fun n1 S2 I2 J2 R2 =>
(rk_ck S1 n 0 5).bind fun _ =>
(rk_layC S2 R2).bind fun _ =>
(rk_ck S2 n 0 5).bind fun _ =>
(rk_wrR R2 1 4 (I 0 1) n).bind fun R3 =>
(some (rk_ui I2 0 1 ((I2 0 1) + 1))).bind fun I3 =>
some (((I3 0 1) - 1), n1, S2, I3, J2, R3)) else (
some ((-4), n, S, I, J, R))))
theorem b_X9_cargo {G : rk_G} {l : Launch} {d : Nat} {n : Nat} {S : rk_Sh} {I : rk_I} {J : rk_J} {R : rk_R} {Q : rk_Q} {a1 : Int32} {a2 : Int32} {r : Int32 × Nat × rk_Sh × rk_I × rk_J × rk_R} (hd : 2 ≤ d) (hL : rk_LC S R) (hf : f_X9_cargo n S I J R a1 a2 = some r) (hq : ∀ (v9 : Int32) (n9 : Nat) (S9 : rk_Sh) (I9 : rk_I) (J9 : rk_J) (R9 : rk_R), r = (v9, n9, S9, I9, J9, R9) → rk_LC S9 R9 → Q (some (.int v9)) n9 S9 I9 J9 R9) :
    AW G l yX9_cargo cX9_cargo 3 (some .int) d 3 11 0 [some (.ref 0), some (.int a1), some (.int a2)] [] n S I J R Q := by
  unfold f_X9_cargo at hf
  refine AW_iload_n1 dX9_cargo_0 ?_
  replace hf := rk_bd hf
  obtain ⟨x1, e1, hf⟩ := hf
  refine AW_iS1iz (w_X9_isAmount (d := 0) e1) dX9_cargo_1 kl_X9_96 (Nat.le_trans (by decide) hd) (by decide) (Nat.le_of_ble_eq_true rfl) (fun _ => ?_)
  refine AW_if_eq 14 dX9_cargo_4 (by decide) (fun h1 => ?_) (fun h1 => ?_)
  · replace hf := rk_it hf h1
    refine AW_bipush (v := (-2)) dX9_cargo_14 (by decide) ?_
    exact AW_iret dX9_cargo_16 rfl (hq _ _ _ _ _ _ (Option.some.inj hf).symm hL)
  · replace hf := rk_if hf h1
    refine AW_iload_n2 dX9_cargo_7 ?_
    replace hf := rk_bd hf
    obtain ⟨x2, e2, hf⟩ := hf
    refine AW_iS1iz (w_X9_isHand (d := 0) e2) dX9_cargo_8 kl_X9_100 (Nat.le_trans (by decide) hd) (by decide) (Nat.le_of_ble_eq_true rfl) (fun _ => ?_)
    refine AW_if_ne 17 dX9_cargo_11 (by decide) (fun h2 => ?_) (fun h2 => ?_)
    · replace hf := rk_if hf h2
      refine AW_aload_n0 dX9_cargo_17 ?_
      refine AW_getI dX9_cargo_18 kf_X9_103 rfl (hL.1 0 (by decide)) (by decide) ?_
      refine AW_iconst (v := 4) dX9_cargo_21 (by decide) ?_
      refine AW_icmp_lt 28 dX9_cargo_22 (by decide) (fun h3 => ?_) (fun h3 => ?_)
      · replace hf := rk_it hf h3
        refine AW_aload_n0 dX9_cargo_28 ?_
        refine AW_getR dX9_cargo_29 kf_X9_11 rfl (hL.1 0 (by decide)) (by decide) (hL.2 0 0 1 rfl) ?_
        refine AW_aload_n0 dX9_cargo_32 ?_
        refine AW_getI dX9_cargo_33 kf_X9_103 rfl (hL.1 0 (by decide)) (by decide) ?_
        replace hf := rk_bd hf
        obtain ⟨_, e3, hf⟩ := hf
        have e3 := rk_nck_sp e3
        replace hf := rk_bd hf
        obtain ⟨S1, e4, hf⟩ := hf
        replace hf := rk_bd hf
        obtain ⟨I1, e5, hf⟩ := hf
        replace hf := rk_bd hf
        obtain ⟨J1, e6, hf⟩ := hf
        replace hf := rk_bd hf
        obtain ⟨R1, e7, hf⟩ := hf
        refine AW_nwO dX9_cargo_36 kc_X9_9 e3 e4 e5 e6 e7 ?_
        refine AW_dup dX9_cargo_39 rfl ?_
        refine AW_aload_n0 dX9_cargo_40 ?_
        replace hf := rk_bd hf
        obtain ⟨_, e8, hf⟩ := hf
        have e8 := rk_layC_sp e8
        refine AW_getI dX9_cargo_41 kf_X9_103 rfl (e8.1 0 (by decide)) (by decide) ?_
        refine AW_iload_n1 dX9_cargo_44 ?_
        refine AW_iload_n2 dX9_cargo_45 ?_
        replace hf := rk_bd5 hf
        obtain ⟨n1, S2, I2, J2, R2, e9, hf⟩ := hf
        replace hf := rk_bd hf
        obtain ⟨_, e10, hf⟩ := hf
        have e10 := rk_ck_sp e10
        refine AW_iI3v (w_X0_init (d := 1) (Nat.le_refl _) e10 e9) dX9_cargo_46 kl_X9_106 (Nat.le_trans (by decide) hd) (by decide) (Nat.le_of_ble_eq_true rfl) (fun _ => ?_)
        replace hf := rk_bd hf
        obtain ⟨_, e11, hf⟩ := hf
        have e11 := rk_layC_sp e11
        replace hf := rk_bd hf
        obtain ⟨_, e12, hf⟩ := hf
        have e12 := rk_ck_sp e12
        replace hf := rk_bd hf
        obtain ⟨R3, e13, hf⟩ := hf
        refine AW_wrR dX9_cargo_49 (e11.1 1 (by decide)) (Or.inl rfl) e12 e13 ?_
        have hL1 := rk_LC_wr e11 e13 (fun _ => rfl)
        refine AW_aload_n0 dX9_cargo_50 ?_
        refine AW_dup dX9_cargo_51 rfl ?_
        refine AW_getI dX9_cargo_52 kf_X9_103 rfl (hL1.1 0 (by decide)) (by decide) ?_
        refine AW_iconst (v := 1) dX9_cargo_55 (by decide) ?_
        refine AW_iadd dX9_cargo_56 ?_
        replace hf := rk_bd hf
        obtain ⟨I3, e14, hf⟩ := hf
        refine AW_puI dX9_cargo_57 kf_X9_103 rfl (hL1.1 0 (by decide)) (by decide) e14 ?_
        refine AW_aload_n0 dX9_cargo_60 ?_
        refine AW_getI dX9_cargo_61 kf_X9_103 rfl (hL1.1 0 (by decide)) (by decide) ?_
        refine AW_iconst (v := 1) dX9_cargo_64 (by decide) ?_
        refine AW_isub dX9_cargo_65 ?_
        exact AW_iret dX9_cargo_66 rfl (hq _ _ _ _ _ _ (Option.some.inj hf).symm hL1)
      · replace hf := rk_if hf h3
        refine AW_bipush (v := (-4)) dX9_cargo_25 (by decide) ?_
        exact AW_iret dX9_cargo_27 rfl (hq _ _ _ _ _ _ (Option.some.inj hf).symm hL)
    · replace hf := rk_it hf h2
      refine AW_bipush (v := (-2)) dX9_cargo_14 (by decide) ?_
      exact AW_iret dX9_cargo_16 rfl (hq _ _ _ _ _ _ (Option.some.inj hf).symm hL)
theorem w_X9_cargo {G : rk_G} {l : Launch} {d : Nat} {n : Nat} {S : rk_Sh} {I : rk_I} {J : rk_J} {R : rk_R} {a1 : Int32} {a2 : Int32} {v8 : Int32} {n8 : Nat} {S8 : rk_Sh} {I8 : rk_I} {J8 : rk_J} {R8 : rk_R} (hd : 2 ≤ d) (hL : rk_LC S R) (hf : f_X9_cargo n S I J R a1 a2 = some (v8, n8, S8, I8, J8, R8)) :
    CW G l yX9_cargo cX9_cargo 3 (some .int) d 3 11 [.ref 0, .int a1, .int a2] n S I J R (rk_qi v8 n8 S8 I8 J8 R8 (rk_LC S8 R8)) :=
  CW.of (by decide +kernel) (Nat.le_of_ble_eq_true rfl) (rk_sbs (rk_sbs (rk_sbs rk_sb0))) (b_X9_cargo hd hL hf (fun v9 n9 S9 I9 J9 R9 h9 hl9 => by cases h9; exact ⟨rfl, rfl, rfl, rfl, rfl, rfl, hl9⟩))
noncomputable def f_X10_in (a0 : Int64) (a1 : Int64) (a2 : Int64) : Option (Int32) :=
if (lg_cmp a0 a1) < 0 then (
some 0) else (
if 0 < (lg_cmp a0 a2) then (
some 0) else (
some 1))
theorem b_X10_in {G : rk_G} {l : Launch} {d kc ks : Nat} {n : Nat} {S : rk_Sh} {I : rk_I} {J : rk_J} {R : rk_R} {Q : rk_Q} {a0 : Int64} {a1 : Int64} {a2 : Int64} {r : Int32} (hf : f_X10_in a0 a1 a2 = some r) (hq : ∀ (v9 : Int32), r = v9 → Q (some (.int v9)) n S I J R) :
    AW G l yX10_in cX10_in 6 (some .boolean) d kc ks 0 [some (.long a0), none, some (.long a1), none, some (.long a2), none] [] n S I J R Q := by
  unfold f_X10_in at hf
  refine AW_lload_n0 dX10_in_0 ?_
  refine AW_lload_n2 dX10_in_1 ?_
  refine AW_lcmp dX10_in_2 ?_
  refine AW_if_lt 17 dX10_in_3 (by decide) (fun h1 => ?_) (fun h1 => ?_)
  · replace hf := rk_it hf h1
    refine AW_iconst (v := 0) dX10_in_17 (by decide) ?_
    exact AW_zret dX10_in_18 rfl rfl (hq _ (Option.some.inj hf).symm)
  · replace hf := rk_if hf h1
    refine AW_lload_n0 dX10_in_6 ?_
    refine AW_lload_4 dX10_in_7 ?_
    refine AW_lcmp dX10_in_9 ?_
    refine AW_if_gt 17 dX10_in_10 (by decide) (fun h2 => ?_) (fun h2 => ?_)
    · replace hf := rk_it hf h2
      refine AW_iconst (v := 0) dX10_in_17 (by decide) ?_
      exact AW_zret dX10_in_18 rfl rfl (hq _ (Option.some.inj hf).symm)
    · replace hf := rk_if hf h2
      refine AW_iconst (v := 1) dX10_in_13 (by decide) ?_
      refine AW_goto 18 dX10_in_14 (by decide) ?_
      exact AW_zret dX10_in_18 rfl rfl (hq _ (Option.some.inj hf).symm)
theorem w_X10_in {G : rk_G} {l : Launch} {d : Nat} {n : Nat} {S : rk_Sh} {I : rk_I} {J : rk_J} {R : rk_R} {a0 : Int64} {a1 : Int64} {a2 : Int64} {v8 : Int32} (hf : f_X10_in a0 a1 a2 = some v8) :
    CW G l yX10_in cX10_in 6 (some .boolean) d 0 0 [.long a0, .long a1, .long a2] n S I J R (rk_qi v8 n S I J R True) :=
  CW.of (by decide +kernel) (Nat.le_of_ble_eq_true rfl) (rk_sbs (rk_sbs (rk_sbs (rk_sbs (rk_sbs (rk_sbs rk_sb0)))))) (b_X10_in hf (fun v9 h9 => by cases h9; exact ⟨rfl, rfl, rfl, rfl, rfl, rfl, trivial⟩))
noncomputable def f_X10_isHand (a0 : Int32) : Option (Int32) :=
(f_X10_in a0.toInt64 0 9).bind fun x1 =>
(rk_bl x1).bind fun x2 =>
some x2
theorem b_X10_isHand {G : rk_G} {l : Launch} {d kc ks : Nat} {n : Nat} {S : rk_Sh} {I : rk_I} {J : rk_J} {R : rk_R} {Q : rk_Q} {a0 : Int32} {r : Int32} (hd : 1 ≤ d) (hf : f_X10_isHand a0 = some r) (hq : ∀ (v9 : Int32), r = v9 → Q (some (.int v9)) n S I J R) :
    AW G l yX10_isHand cX10_isHand 1 (some .boolean) d kc ks 0 [some (.int a0)] [] n S I J R Q := by
  unfold f_X10_isHand at hf
  refine AW_iload_n0 dX10_isHand_0 ?_
  refine AW_i2l dX10_isHand_1 ?_
  refine AW_lconst (v := 0) dX10_isHand_2 (by decide) ?_
  refine AW_ldc2 dX10_isHand_3 kv_X10_121 ?_
  replace hf := rk_bd hf
  obtain ⟨x1, e1, hf⟩ := hf
  refine AW_iS3iz (w_X10_in (d := 0) e1) dX10_isHand_6 kl_X10_114 (Nat.le_trans (by decide) hd) (by decide) (Nat.le_of_ble_eq_true rfl) (fun _ => ?_)
  replace hf := rk_bd hf
  obtain ⟨x2, e2, hf⟩ := hf
  exact AW_zr dX10_isHand_9 rfl e2 (hq _ (Option.some.inj hf).symm)
theorem w_X10_isHand {G : rk_G} {l : Launch} {d : Nat} {n : Nat} {S : rk_Sh} {I : rk_I} {J : rk_J} {R : rk_R} {a0 : Int32} {v8 : Int32} (hd : 1 ≤ d) (hf : f_X10_isHand a0 = some v8) :
    CW G l yX10_isHand cX10_isHand 1 (some .boolean) d 0 0 [.int a0] n S I J R (rk_qi v8 n S I J R True) :=
  CW.of (by decide +kernel) (Nat.le_of_ble_eq_true rfl) (rk_sbs rk_sb0) (b_X10_isHand hd hf (fun v9 h9 => by cases h9; exact ⟨rfl, rfl, rfl, rfl, rfl, rfl, trivial⟩))
noncomputable def f_X10_cargo_l55 (I : rk_I) (s3 : Int32) : Option ((Int32 × rk_I) ⊕ (Int32 × rk_I)) :=
if 3 ≤ s3 then (
some (.inr (s3, I))) else (
(rk_wr I 37 12 ((3 * (I 31 10)) + s3) (-1)).bind fun I1 =>
some (.inl ((s3 + 1), I1)))
theorem b_X10_cargo_l55 {G : rk_G} {l : Launch} {d kc ks : Nat} {n : Nat} {S : rk_Sh} {I : rk_I} {J : rk_J} {R : rk_R} {Q : rk_Q} {s3 : Int32} {r : (Int32 × rk_I) ⊕ (Int32 × rk_I)} (hd : 2 ≤ d) (hM : rk_LM S R) (hf : f_X10_cargo_l55 I s3 = some r) (hc : ∀ (w0 : Int32) (I9 : rk_I), r = .inl (w0, I9) → AW G l yX10_cargo cX10_cargo 4 (some .int) d kc ks 55 [some (.ref 31), none, none, some (.int w0)] [] n S I9 J R Q) (he : ∀ (w0 : Int32) (I9 : rk_I), r = .inr (w0, I9) → AW G l yX10_cargo cX10_cargo 4 (some .int) d kc ks 80 [some (.ref 31), none, none, some (.int w0)] [] n S I9 J R Q) :
    AW G l yX10_cargo cX10_cargo 4 (some .int) d kc ks 55 [some (.ref 31), none, none, some (.int s3)] [] n S I J R Q := by
  unfold f_X10_cargo_l55 at hf
  refine AW_iload_n3 dX10_cargo_55 ?_
  refine AW_iconst (v := 3) dX10_cargo_56 (by decide) ?_
  refine AW_icmp_ge 80 dX10_cargo_57 (by decide) (fun h1 => ?_) (fun h1 => ?_)
  · replace hf := rk_it hf h1
    refine AW_sb (rk_sbs (rk_sbn (rk_sbn (rk_sbs rk_sb0)))) ?_
    exact he _ _ (Option.some.inj hf).symm
  · replace hf := rk_if hf h1
    refine AW_aload_n0 dX10_cargo_60 ?_
    refine AW_getR dX10_cargo_61 kf_X10_29 rfl (hM.1 31 (by decide) (by decide)) (by decide) (hM.2 31 9 37 rfl) ?_
    refine AW_iconst (v := 3) dX10_cargo_64 (by decide) ?_
    refine AW_aload_n0 dX10_cargo_65 ?_
    refine AW_getI dX10_cargo_66 kf_X10_111 rfl (hM.1 31 (by decide) (by decide)) (by decide) ?_
    refine AW_imul dX10_cargo_69 ?_
    refine AW_iload_n3 dX10_cargo_70 ?_
    refine AW_iadd dX10_cargo_71 ?_
    refine AW_iconst (v := (-1)) dX10_cargo_72 (by decide) ?_
    replace hf := rk_bd hf
    obtain ⟨I1, e1, hf⟩ := hf
    refine AW_wr dX10_cargo_73 (hM.1 37 (by decide) (by decide)) e1 ?_
    refine AW_iinc_3 (v := 1) dX10_cargo_74 (by decide) (by decide) rfl ?_
    refine AW_goto 55 dX10_cargo_77 (by decide) ?_
    refine AW_sb (rk_sbs (rk_sbn (rk_sbn (rk_sbs rk_sb0)))) ?_
    exact hc _ _ (Option.some.inj hf).symm
theorem L_X10_cargo_w55 {G : rk_G} {l : Launch} {d kc ks : Nat} {n : Nat} {S : rk_Sh} {J : rk_J} {R : rk_R} {Q : rk_Q}  {r : Int32 × rk_I} (hd : 2 ≤ d) (hM : rk_LM S R) (he : ∀ (w0 : Int32) (I9 : rk_I), r = (w0, I9) → AW G l yX10_cargo cX10_cargo 4 (some .int) d kc ks 80 [some (.ref 31), none, none, some (.int w0)] [] n S I9 J R Q) :
    ∀ (m9 : Nat) (s3 : Int32) (I : rk_I), rk_loop (fun a9 => f_X10_cargo_l55 a9.2 a9.1) m9 (s3, I) = some r → AW G l yX10_cargo cX10_cargo 4 (some .int) d kc ks 55 [some (.ref 31), none, none, some (.int s3)] [] n S I J R Q := by
  intro m9
  induction m9 with
  | zero => intro s3 I hf; cases hf
  | succ m9 ih =>
    intro s3 I hf 
    obtain ⟨r9, hf, hr⟩ := rk_loop_s hf
    exact b_X10_cargo_l55 hd hM hf (fun _ _ h9 => by subst h9; exact ih _ _ hr) (fun _ _ h9 => by subst h9; exact he _ _ hr.symm)
noncomputable def f_X10_cargo (I : rk_I) (a1 : Int32) (a2 : Int32) : Option (Int32 × rk_I) :=
(f_X10_in a1.toInt64 1 999).bind fun x1 =>
if x1 = 0 then (
some ((-2), I)) else (
(f_X10_isHand a2).bind fun x2 =>
if x2 = 0 then (
some ((-2), I)) else (
if (I 31 10) = 4 then (
some ((-4), I)) else (
(rk_wr I 35 4 (I 31 10) a1).bind fun I1 =>
(rk_wr I1 36 4 (I1 31 10) a2).bind fun I2 =>
rk_b2 (rk_while (fun a9 => f_X10_cargo_l55 a9.2 a9.1) (0, I2)) fun x3 I3 =>
(some (rk_ui I3 31 10 ((I3 31 10) + 1))).bind fun I4 =>
some (((I4 31 10) - 1), I4))))
theorem b_X10_cargo {G : rk_G} {l : Launch} {d kc ks : Nat} {n : Nat} {S : rk_Sh} {I : rk_I} {J : rk_J} {R : rk_R} {Q : rk_Q} {a1 : Int32} {a2 : Int32} {r : Int32 × rk_I} (hd : 2 ≤ d) (hM : rk_LM S R) (hf : f_X10_cargo I a1 a2 = some r) (hq : ∀ (v9 : Int32) (I9 : rk_I), r = (v9, I9) → Q (some (.int v9)) n S I9 J R) :
    AW G l yX10_cargo cX10_cargo 4 (some .int) d kc ks 0 [some (.ref 31), some (.int a1), some (.int a2), none] [] n S I J R Q := by
  unfold f_X10_cargo at hf
  refine AW_iload_n1 dX10_cargo_0 ?_
  refine AW_i2l dX10_cargo_1 ?_
  refine AW_lconst (v := 1) dX10_cargo_2 (by decide) ?_
  refine AW_ldc2 dX10_cargo_3 kv_X10_123 ?_
  replace hf := rk_bd hf
  obtain ⟨x1, e1, hf⟩ := hf
  refine AW_iS3iz (w_X10_in (d := 0) e1) dX10_cargo_6 kl_X10_114 (Nat.le_trans (by decide) hd) (by decide) (Nat.le_of_ble_eq_true rfl) (fun _ => ?_)
  refine AW_if_eq 19 dX10_cargo_9 (by decide) (fun h1 => ?_) (fun h1 => ?_)
  · replace hf := rk_it hf h1
    refine AW_bipush (v := (-2)) dX10_cargo_19 (by decide) ?_
    exact AW_iret dX10_cargo_21 rfl (hq _ _ (Option.some.inj hf).symm)
  · replace hf := rk_if hf h1
    refine AW_iload_n2 dX10_cargo_12 ?_
    replace hf := rk_bd hf
    obtain ⟨x2, e2, hf⟩ := hf
    refine AW_iS1iz (w_X10_isHand (d := 1) (Nat.le_refl _) e2) dX10_cargo_13 kl_X10_125 (Nat.le_trans (by decide) hd) (by decide) (Nat.le_of_ble_eq_true rfl) (fun _ => ?_)
    refine AW_if_ne 22 dX10_cargo_16 (by decide) (fun h2 => ?_) (fun h2 => ?_)
    · replace hf := rk_if hf h2
      refine AW_aload_n0 dX10_cargo_22 ?_
      refine AW_getI dX10_cargo_23 kf_X10_111 rfl (hM.1 31 (by decide) (by decide)) (by decide) ?_
      refine AW_iconst (v := 4) dX10_cargo_26 (by decide) ?_
      refine AW_icmp_ne 33 dX10_cargo_27 (by decide) (fun h3 => ?_) (fun h3 => ?_)
      · replace hf := rk_if hf h3
        refine AW_aload_n0 dX10_cargo_33 ?_
        refine AW_getR dX10_cargo_34 kf_X10_23 rfl (hM.1 31 (by decide) (by decide)) (by decide) (hM.2 31 7 35 rfl) ?_
        refine AW_aload_n0 dX10_cargo_37 ?_
        refine AW_getI dX10_cargo_38 kf_X10_111 rfl (hM.1 31 (by decide) (by decide)) (by decide) ?_
        refine AW_iload_n1 dX10_cargo_41 ?_
        replace hf := rk_bd hf
        obtain ⟨I1, e3, hf⟩ := hf
        refine AW_wr dX10_cargo_42 (hM.1 35 (by decide) (by decide)) e3 ?_
        refine AW_aload_n0 dX10_cargo_43 ?_
        refine AW_getR dX10_cargo_44 kf_X10_26 rfl (hM.1 31 (by decide) (by decide)) (by decide) (hM.2 31 8 36 rfl) ?_
        refine AW_aload_n0 dX10_cargo_47 ?_
        refine AW_getI dX10_cargo_48 kf_X10_111 rfl (hM.1 31 (by decide) (by decide)) (by decide) ?_
        refine AW_iload_n2 dX10_cargo_51 ?_
        replace hf := rk_bd hf
        obtain ⟨I2, e4, hf⟩ := hf
        refine AW_wr dX10_cargo_52 (hM.1 36 (by decide) (by decide)) e4 ?_
        refine AW_iconst (v := 0) dX10_cargo_53 (by decide) ?_
        refine AW_istore_n3 dX10_cargo_54 (by decide) rfl ?_
        refine AW_sb (rk_sbs (rk_sbn (rk_sbn (rk_sbs rk_sb0)))) ?_
        replace hf := rk_bd2 hf
        obtain ⟨x3, I3, e5, hf⟩ := hf
        obtain ⟨m1, e5⟩ := rk_while_sp e5
        refine L_X10_cargo_w55 (Nat.le_trans (by decide) hd) hM ?_ m1 _ _ e5
        intro x3 I3 h9
        cases h9
        refine AW_aload_n0 dX10_cargo_80 ?_
        refine AW_dup dX10_cargo_81 rfl ?_
        refine AW_getI dX10_cargo_82 kf_X10_111 rfl (hM.1 31 (by decide) (by decide)) (by decide) ?_
        refine AW_iconst (v := 1) dX10_cargo_85 (by decide) ?_
        refine AW_iadd dX10_cargo_86 ?_
        replace hf := rk_bd hf
        obtain ⟨I4, e6, hf⟩ := hf
        refine AW_puI dX10_cargo_87 kf_X10_111 rfl (hM.1 31 (by decide) (by decide)) (by decide) e6 ?_
        refine AW_aload_n0 dX10_cargo_90 ?_
        refine AW_getI dX10_cargo_91 kf_X10_111 rfl (hM.1 31 (by decide) (by decide)) (by decide) ?_
        refine AW_iconst (v := 1) dX10_cargo_94 (by decide) ?_
        refine AW_isub dX10_cargo_95 ?_
        exact AW_iret dX10_cargo_96 rfl (hq _ _ (Option.some.inj hf).symm)
      · replace hf := rk_it hf h3
        refine AW_bipush (v := (-4)) dX10_cargo_30 (by decide) ?_
        exact AW_iret dX10_cargo_32 rfl (hq _ _ (Option.some.inj hf).symm)
    · replace hf := rk_it hf h2
      refine AW_bipush (v := (-2)) dX10_cargo_19 (by decide) ?_
      exact AW_iret dX10_cargo_21 rfl (hq _ _ (Option.some.inj hf).symm)
theorem w_X10_cargo {G : rk_G} {l : Launch} {d : Nat} {n : Nat} {S : rk_Sh} {I : rk_I} {J : rk_J} {R : rk_R} {a1 : Int32} {a2 : Int32} {v8 : Int32} {I8 : rk_I} (hd : 2 ≤ d) (hM : rk_LM S R) (hf : f_X10_cargo I a1 a2 = some (v8, I8)) :
    CW G l yX10_cargo cX10_cargo 4 (some .int) d 0 0 [.ref 31, .int a1, .int a2] n S I J R (rk_qi v8 n S I8 J R True) :=
  CW.of (by decide +kernel) (Nat.le_of_ble_eq_true rfl) (rk_sbs (rk_sbs (rk_sbs (rk_sbe rk_sb0)))) (b_X10_cargo hd hM hf (fun v9 I9 h9 => by cases h9; exact ⟨rfl, rfl, rfl, rfl, rfl, rfl, trivial⟩))
noncomputable def f_X9_cargoAt (I : rk_I) (R : rk_R) (a1 : Int32) : Option (Option Nat) :=
if a1 < 0 then (
some none) else (
if (I 0 1) ≤ a1 then (
some none) else (
(rk_rdR R 1 4 a1).bind fun q1 =>
some q1))
theorem b_X9_cargoAt {G : rk_G} {l : Launch} {d kc ks : Nat} {n : Nat} {S : rk_Sh} {I : rk_I} {J : rk_J} {R : rk_R} {Q : rk_Q} {a1 : Int32} {r : Option Nat} (hL : rk_LC S R) (hf : f_X9_cargoAt I R a1 = some r) (hq : ∀ (v9 : Option Nat), r = v9 → Q (some (rk_o v9)) n S I J R) :
    AW G l yX9_cargoAt cX9_cargoAt 2 (some (.object "RailCargo$Cargo")) d kc ks 0 [some (.ref 0), some (.int a1)] [] n S I J R Q := by
  unfold f_X9_cargoAt at hf
  refine AW_iload_n1 dX9_cargoAt_0 ?_
  refine AW_if_lt 21 dX9_cargoAt_1 (by decide) (fun h1 => ?_) (fun h1 => ?_)
  · replace hf := rk_it hf h1
    refine AW_null dX9_cargoAt_21 ?_
    exact AW_aretO (q := none) dX9_cargoAt_22 rfl (hq _ (Option.some.inj hf).symm)
  · replace hf := rk_if hf h1
    refine AW_iload_n1 dX9_cargoAt_4 ?_
    refine AW_aload_n0 dX9_cargoAt_5 ?_
    refine AW_getI dX9_cargoAt_6 kf_X9_103 rfl (hL.1 0 (by decide)) (by decide) ?_
    refine AW_icmp_ge 21 dX9_cargoAt_9 (by decide) (fun h2 => ?_) (fun h2 => ?_)
    · replace hf := rk_it hf h2
      refine AW_null dX9_cargoAt_21 ?_
      exact AW_aretO (q := none) dX9_cargoAt_22 rfl (hq _ (Option.some.inj hf).symm)
    · replace hf := rk_if hf h2
      refine AW_aload_n0 dX9_cargoAt_12 ?_
      refine AW_getR dX9_cargoAt_13 kf_X9_11 rfl (hL.1 0 (by decide)) (by decide) (hL.2 0 0 1 rfl) ?_
      refine AW_iload_n1 dX9_cargoAt_16 ?_
      replace hf := rk_bd hf
      obtain ⟨q1, e1, hf⟩ := hf
      refine AW_rdR dX9_cargoAt_17 (hL.1 1 (by decide)) (by decide) e1 ?_
      refine AW_goto 22 dX9_cargoAt_18 (by decide) ?_
      exact AW_aretO (q := q1) dX9_cargoAt_22 rfl (hq _ (Option.some.inj hf).symm)
theorem w_X9_cargoAt {G : rk_G} {l : Launch} {d : Nat} {n : Nat} {S : rk_Sh} {I : rk_I} {J : rk_J} {R : rk_R} {a1 : Int32} {v8 : Option Nat} (hL : rk_LC S R) (hf : f_X9_cargoAt I R a1 = some v8) :
    CW G l yX9_cargoAt cX9_cargoAt 2 (some (.object "RailCargo$Cargo")) d 0 0 [.ref 0, .int a1] n S I J R (rk_qo v8 n S I J R True) :=
  CW.of (by decide +kernel) (Nat.le_of_ble_eq_true rfl) (rk_sbs (rk_sbs rk_sb0)) (b_X9_cargoAt hL hf (fun v9 h9 => by cases h9; exact ⟨rfl, rfl, rfl, rfl, rfl, rfl, trivial⟩))
noncomputable def f_X9_isHour (a0 : Int32) : Option (Int32) :=
if a0 < 0 then (
some 0) else (
if 999 < a0 then (
some 0) else (
some 1))
theorem b_X9_isHour {G : rk_G} {l : Launch} {d kc ks : Nat} {n : Nat} {S : rk_Sh} {I : rk_I} {J : rk_J} {R : rk_R} {Q : rk_Q} {a0 : Int32} {r : Int32} (hf : f_X9_isHour a0 = some r) (hq : ∀ (v9 : Int32), r = v9 → Q (some (.int v9)) n S I J R) :
    AW G l yX9_isHour cX9_isHour 1 (some .boolean) d kc ks 0 [some (.int a0)] [] n S I J R Q := by
  unfold f_X9_isHour at hf
  refine AW_iload_n0 dX9_isHour_0 ?_
  refine AW_if_lt 15 dX9_isHour_1 (by decide) (fun h1 => ?_) (fun h1 => ?_)
  · replace hf := rk_it hf h1
    refine AW_iconst (v := 0) dX9_isHour_15 (by decide) ?_
    exact AW_zret dX9_isHour_16 rfl rfl (hq _ (Option.some.inj hf).symm)
  · replace hf := rk_if hf h1
    refine AW_iload_n0 dX9_isHour_4 ?_
    refine AW_sipush (v := 999) dX9_isHour_5 (by decide) ?_
    refine AW_icmp_gt 15 dX9_isHour_8 (by decide) (fun h2 => ?_) (fun h2 => ?_)
    · replace hf := rk_it hf h2
      refine AW_iconst (v := 0) dX9_isHour_15 (by decide) ?_
      exact AW_zret dX9_isHour_16 rfl rfl (hq _ (Option.some.inj hf).symm)
    · replace hf := rk_if hf h2
      refine AW_iconst (v := 1) dX9_isHour_11 (by decide) ?_
      refine AW_goto 16 dX9_isHour_12 (by decide) ?_
      exact AW_zret dX9_isHour_16 rfl rfl (hq _ (Option.some.inj hf).symm)
theorem w_X9_isHour {G : rk_G} {l : Launch} {d : Nat} {n : Nat} {S : rk_Sh} {I : rk_I} {J : rk_J} {R : rk_R} {a0 : Int32} {v8 : Int32} (hf : f_X9_isHour a0 = some v8) :
    CW G l yX9_isHour cX9_isHour 1 (some .boolean) d 0 0 [.int a0] n S I J R (rk_qi v8 n S I J R True) :=
  CW.of (by decide +kernel) (Nat.le_of_ble_eq_true rfl) (rk_sbs rk_sb0) (b_X9_isHour hf (fun v9 h9 => by cases h9; exact ⟨rfl, rfl, rfl, rfl, rfl, rfl, trivial⟩))
noncomputable def f_X9_isHourOrNone (a0 : Int32) : Option (Int32) :=
if a0 = (-1) then (
some 1) else (
(f_X9_isHour a0).bind fun x1 =>
if x1 = 0 then (
some 0) else (
some 1))
theorem b_X9_isHourOrNone {G : rk_G} {l : Launch} {d kc ks : Nat} {n : Nat} {S : rk_Sh} {I : rk_I} {J : rk_J} {R : rk_R} {Q : rk_Q} {a0 : Int32} {r : Int32} (hd : 1 ≤ d) (hf : f_X9_isHourOrNone a0 = some r) (hq : ∀ (v9 : Int32), r = v9 → Q (some (.int v9)) n S I J R) :
    AW G l yX9_isHourOrNone cX9_isHourOrNone 1 (some .boolean) d kc ks 0 [some (.int a0)] [] n S I J R Q := by
  unfold f_X9_isHourOrNone at hf
  refine AW_iload_n0 dX9_isHourOrNone_0 ?_
  refine AW_iconst (v := (-1)) dX9_isHourOrNone_1 (by decide) ?_
  refine AW_icmp_eq 12 dX9_isHourOrNone_2 (by decide) (fun h1 => ?_) (fun h1 => ?_)
  · replace hf := rk_it hf h1
    refine AW_iconst (v := 1) dX9_isHourOrNone_12 (by decide) ?_
    refine AW_goto 17 dX9_isHourOrNone_13 (by decide) ?_
    exact AW_zret dX9_isHourOrNone_17 rfl rfl (hq _ (Option.some.inj hf).symm)
  · replace hf := rk_if hf h1
    refine AW_iload_n0 dX9_isHourOrNone_5 ?_
    replace hf := rk_bd hf
    obtain ⟨x1, e1, hf⟩ := hf
    refine AW_iS1iz (w_X9_isHour (d := 0) e1) dX9_isHourOrNone_6 kl_X9_122 (Nat.le_trans (by decide) hd) (by decide) (Nat.le_of_ble_eq_true rfl) (fun _ => ?_)
    refine AW_if_eq 16 dX9_isHourOrNone_9 (by decide) (fun h2 => ?_) (fun h2 => ?_)
    · replace hf := rk_it hf h2
      refine AW_iconst (v := 0) dX9_isHourOrNone_16 (by decide) ?_
      exact AW_zret dX9_isHourOrNone_17 rfl rfl (hq _ (Option.some.inj hf).symm)
    · replace hf := rk_if hf h2
      refine AW_iconst (v := 1) dX9_isHourOrNone_12 (by decide) ?_
      refine AW_goto 17 dX9_isHourOrNone_13 (by decide) ?_
      exact AW_zret dX9_isHourOrNone_17 rfl rfl (hq _ (Option.some.inj hf).symm)
theorem w_X9_isHourOrNone {G : rk_G} {l : Launch} {d : Nat} {n : Nat} {S : rk_Sh} {I : rk_I} {J : rk_J} {R : rk_R} {a0 : Int32} {v8 : Int32} (hd : 1 ≤ d) (hf : f_X9_isHourOrNone a0 = some v8) :
    CW G l yX9_isHourOrNone cX9_isHourOrNone 1 (some .boolean) d 0 0 [.int a0] n S I J R (rk_qi v8 n S I J R True) :=
  CW.of (by decide +kernel) (Nat.le_of_ble_eq_true rfl) (rk_sbs rk_sb0) (b_X9_isHourOrNone hd hf (fun v9 h9 => by cases h9; exact ⟨rfl, rfl, rfl, rfl, rfl, rfl, trivial⟩))
noncomputable def f_X9_hour (S : rk_Sh) (I : rk_I) (R : rk_R) (a1 : Int32) (a2 : Int32) (a3 : Int32) : Option (Int32 × rk_I) :=
(f_X9_cargoAt I R a1).bind fun q1 =>
rk_oc q1 (
some ((-2), I)) (fun o1 => (
if a2 < 0 then (
some ((-2), I)) else (
if 3 ≤ a2 then (
some ((-2), I)) else (
(f_X9_isHourOrNone a3).bind fun x1 =>
if x1 = 0 then (
some ((-2), I)) else (
(rk_ck S o1 0 5).bind fun _ =>
(some (R o1 3)).bind fun q2 =>
(q2).bind fun o2 =>
(rk_rdD S I o2 a2).bind fun x2 =>
(some (R o1 3)).bind fun q3 =>
(q3).bind fun o3 =>
(rk_wrD S I o3 a2 a3).bind fun I1 =>
some (x2, I1))))))
theorem b_X9_hour {G : rk_G} {l : Launch} {d kc ks : Nat} {n : Nat} {S : rk_Sh} {I : rk_I} {J : rk_J} {R : rk_R} {Q : rk_Q} {a1 : Int32} {a2 : Int32} {a3 : Int32} {r : Int32 × rk_I} (hd : 2 ≤ d) (hL : rk_LC S R) (hf : f_X9_hour S I R a1 a2 a3 = some r) (hq : ∀ (v9 : Int32) (I9 : rk_I), r = (v9, I9) → Q (some (.int v9)) n S I9 J R) :
    AW G l yX9_hour cX9_hour 6 (some .int) d kc ks 0 [some (.ref 0), some (.int a1), some (.int a2), some (.int a3), none, none] [] n S I J R Q := by
  unfold f_X9_hour at hf
  refine AW_aload_n0 dX9_hour_0 ?_
  refine AW_iload_n1 dX9_hour_1 ?_
  replace hf := rk_bd hf
  obtain ⟨q1, e1, hf⟩ := hf
  refine AW_iV1oz (w_X9_cargoAt (d := 0) hL e1) dX9_hour_2 kl_X9_109 (hL.1 0 (by decide)) rfl (Nat.le_trans (by decide) hd) (by decide) (Nat.le_of_ble_eq_true rfl) (fun _ => ?_)
  refine AW_astoreO_4 dX9_hour_5 (by decide) rfl ?_
  refine AW_aloadO_4 dX9_hour_7 ?_
  rcases q1 with _ | o1
  · replace hf := rk_oc_n hf
    refine AW_ifnullN 28 dX9_hour_9 (by decide) ?_
    refine AW_bipush (v := (-2)) dX9_hour_28 (by decide) ?_
    exact AW_iret dX9_hour_30 rfl (hq _ _ (Option.some.inj hf).symm)
  · replace hf := rk_oc_s hf
    refine AW_ifnull dX9_hour_9 ?_
    refine AW_iload_n2 dX9_hour_12 ?_
    refine AW_if_lt 28 dX9_hour_13 (by decide) (fun h1 => ?_) (fun h1 => ?_)
    · replace hf := rk_it hf h1
      refine AW_bipush (v := (-2)) dX9_hour_28 (by decide) ?_
      exact AW_iret dX9_hour_30 rfl (hq _ _ (Option.some.inj hf).symm)
    · replace hf := rk_if hf h1
      refine AW_iload_n2 dX9_hour_16 ?_
      refine AW_iconst (v := 3) dX9_hour_17 (by decide) ?_
      refine AW_icmp_ge 28 dX9_hour_18 (by decide) (fun h2 => ?_) (fun h2 => ?_)
      · replace hf := rk_it hf h2
        refine AW_bipush (v := (-2)) dX9_hour_28 (by decide) ?_
        exact AW_iret dX9_hour_30 rfl (hq _ _ (Option.some.inj hf).symm)
      · replace hf := rk_if hf h2
        refine AW_iload_n3 dX9_hour_21 ?_
        replace hf := rk_bd hf
        obtain ⟨x1, e2, hf⟩ := hf
        refine AW_iS1iz (w_X9_isHourOrNone (d := 1) (Nat.le_refl _) e2) dX9_hour_22 kl_X9_113 (Nat.le_trans (by decide) hd) (by decide) (Nat.le_of_ble_eq_true rfl) (fun _ => ?_)
        refine AW_if_ne 31 dX9_hour_25 (by decide) (fun h3 => ?_) (fun h3 => ?_)
        · replace hf := rk_if hf h3
          refine AW_aload_4 dX9_hour_31 ?_
          replace hf := rk_bd hf
          obtain ⟨_, e3, hf⟩ := hf
          have e3 := rk_ck_sp e3
          replace hf := rk_bd hf
          obtain ⟨q2, e4, hf⟩ := hf
          refine AW_getQ dX9_hour_33 kf_X9_116 rfl e3 (by decide) e4 ?_
          refine AW_iload_n2 dX9_hour_36 ?_
          replace hf := rk_bd hf
          obtain ⟨o2, e5, hf⟩ := hf
          subst e5
          replace hf := rk_bd hf
          obtain ⟨x2, e6, hf⟩ := hf
          refine AW_rdD dX9_hour_37 e6 ?_
          refine AW_istore_5 dX9_hour_38 (by decide) rfl ?_
          refine AW_aload_4 dX9_hour_40 ?_
          replace hf := rk_bd hf
          obtain ⟨q3, e7, hf⟩ := hf
          refine AW_getQ dX9_hour_42 kf_X9_116 rfl e3 (by decide) e7 ?_
          refine AW_iload_n2 dX9_hour_45 ?_
          refine AW_iload_n3 dX9_hour_46 ?_
          replace hf := rk_bd hf
          obtain ⟨o3, e8, hf⟩ := hf
          subst e8
          replace hf := rk_bd hf
          obtain ⟨I1, e9, hf⟩ := hf
          refine AW_wrD dX9_hour_47 e9 ?_
          refine AW_iload_5 dX9_hour_48 ?_
          exact AW_iret dX9_hour_50 rfl (hq _ _ (Option.some.inj hf).symm)
        · replace hf := rk_it hf h3
          refine AW_bipush (v := (-2)) dX9_hour_28 (by decide) ?_
          exact AW_iret dX9_hour_30 rfl (hq _ _ (Option.some.inj hf).symm)
theorem w_X9_hour {G : rk_G} {l : Launch} {d : Nat} {n : Nat} {S : rk_Sh} {I : rk_I} {J : rk_J} {R : rk_R} {a1 : Int32} {a2 : Int32} {a3 : Int32} {v8 : Int32} {I8 : rk_I} (hd : 2 ≤ d) (hL : rk_LC S R) (hf : f_X9_hour S I R a1 a2 a3 = some (v8, I8)) :
    CW G l yX9_hour cX9_hour 6 (some .int) d 0 0 [.ref 0, .int a1, .int a2, .int a3] n S I J R (rk_qi v8 n S I8 J R True) :=
  CW.of (by decide +kernel) (Nat.le_of_ble_eq_true rfl) (rk_sbs (rk_sbs (rk_sbs (rk_sbs (rk_sbe (rk_sbe rk_sb0)))))) (b_X9_hour hd hL hf (fun v9 I9 h9 => by cases h9; exact ⟨rfl, rfl, rfl, rfl, rfl, rfl, trivial⟩))
noncomputable def f_X10_isCargo (I : rk_I) (a1 : Int32) : Option (Int32) :=
(f_X10_in a1.toInt64 0 ((I 31 10) - 1).toInt64).bind fun x1 =>
(rk_bl x1).bind fun x2 =>
some x2
theorem b_X10_isCargo {G : rk_G} {l : Launch} {d kc ks : Nat} {n : Nat} {S : rk_Sh} {I : rk_I} {J : rk_J} {R : rk_R} {Q : rk_Q} {a1 : Int32} {r : Int32} (hd : 1 ≤ d) (hM : rk_LM S R) (hf : f_X10_isCargo I a1 = some r) (hq : ∀ (v9 : Int32), r = v9 → Q (some (.int v9)) n S I J R) :
    AW G l yX10_isCargo cX10_isCargo 2 (some .boolean) d kc ks 0 [some (.ref 31), some (.int a1)] [] n S I J R Q := by
  unfold f_X10_isCargo at hf
  refine AW_iload_n1 dX10_isCargo_0 ?_
  refine AW_i2l dX10_isCargo_1 ?_
  refine AW_lconst (v := 0) dX10_isCargo_2 (by decide) ?_
  refine AW_aload_n0 dX10_isCargo_3 ?_
  refine AW_getI dX10_isCargo_4 kf_X10_111 rfl (hM.1 31 (by decide) (by decide)) (by decide) ?_
  refine AW_iconst (v := 1) dX10_isCargo_7 (by decide) ?_
  refine AW_isub dX10_isCargo_8 ?_
  refine AW_i2l dX10_isCargo_9 ?_
  replace hf := rk_bd hf
  obtain ⟨x1, e1, hf⟩ := hf
  refine AW_iS3iz (w_X10_in (d := 0) e1) dX10_isCargo_10 kl_X10_114 (Nat.le_trans (by decide) hd) (by decide) (Nat.le_of_ble_eq_true rfl) (fun _ => ?_)
  replace hf := rk_bd hf
  obtain ⟨x2, e2, hf⟩ := hf
  exact AW_zr dX10_isCargo_13 rfl e2 (hq _ (Option.some.inj hf).symm)
theorem w_X10_isCargo {G : rk_G} {l : Launch} {d : Nat} {n : Nat} {S : rk_Sh} {I : rk_I} {J : rk_J} {R : rk_R} {a1 : Int32} {v8 : Int32} (hd : 1 ≤ d) (hM : rk_LM S R) (hf : f_X10_isCargo I a1 = some v8) :
    CW G l yX10_isCargo cX10_isCargo 2 (some .boolean) d 0 0 [.ref 31, .int a1] n S I J R (rk_qi v8 n S I J R True) :=
  CW.of (by decide +kernel) (Nat.le_of_ble_eq_true rfl) (rk_sbs (rk_sbs rk_sb0)) (b_X10_isCargo hd hM hf (fun v9 h9 => by cases h9; exact ⟨rfl, rfl, rfl, rfl, rfl, rfl, trivial⟩))
noncomputable def f_X10_hour (I : rk_I) (a1 : Int32) (a2 : Int32) (a3 : Int32) : Option (Int32 × rk_I) :=
(f_X10_isCargo I a1).bind fun x1 =>
if x1 = 0 then (
some ((-2), I)) else (
(f_X10_in a2.toInt64 0 2).bind fun x2 =>
if x2 = 0 then (
some ((-2), I)) else (
(f_X10_in a3.toInt64 (-1) 999).bind fun x3 =>
if x3 = 0 then (
some ((-2), I)) else (
(rk_rd I 37 12 ((3 * a1) + a2)).bind fun x4 =>
(rk_wr I 37 12 ((3 * a1) + a2) a3).bind fun I1 =>
some (x4, I1))))
theorem b_X10_hour {G : rk_G} {l : Launch} {d kc ks : Nat} {n : Nat} {S : rk_Sh} {I : rk_I} {J : rk_J} {R : rk_R} {Q : rk_Q} {a1 : Int32} {a2 : Int32} {a3 : Int32} {r : Int32 × rk_I} (hd : 2 ≤ d) (hM : rk_LM S R) (hf : f_X10_hour I a1 a2 a3 = some r) (hq : ∀ (v9 : Int32) (I9 : rk_I), r = (v9, I9) → Q (some (.int v9)) n S I9 J R) :
    AW G l yX10_hour cX10_hour 5 (some .int) d kc ks 0 [some (.ref 31), some (.int a1), some (.int a2), some (.int a3), none] [] n S I J R Q := by
  unfold f_X10_hour at hf
  refine AW_aload_n0 dX10_hour_0 ?_
  refine AW_iload_n1 dX10_hour_1 ?_
  replace hf := rk_bd hf
  obtain ⟨x1, e1, hf⟩ := hf
  refine AW_iV1iz (w_X10_isCargo (d := 1) (Nat.le_refl _) hM e1) dX10_hour_2 kl_X10_129 (hM.1 31 (by decide) (by decide)) rfl (Nat.le_trans (by decide) hd) (by decide) (Nat.le_of_ble_eq_true rfl) (fun _ => ?_)
  refine AW_if_eq 34 dX10_hour_5 (by decide) (fun h1 => ?_) (fun h1 => ?_)
  · replace hf := rk_it hf h1
    refine AW_bipush (v := (-2)) dX10_hour_34 (by decide) ?_
    exact AW_iret dX10_hour_36 rfl (hq _ _ (Option.some.inj hf).symm)
  · replace hf := rk_if hf h1
    refine AW_iload_n2 dX10_hour_8 ?_
    refine AW_i2l dX10_hour_9 ?_
    refine AW_lconst (v := 0) dX10_hour_10 (by decide) ?_
    refine AW_ldc2 dX10_hour_11 kv_X10_132 ?_
    replace hf := rk_bd hf
    obtain ⟨x2, e2, hf⟩ := hf
    refine AW_iS3iz (w_X10_in (d := 0) e2) dX10_hour_14 kl_X10_114 (Nat.le_trans (by decide) hd) (by decide) (Nat.le_of_ble_eq_true rfl) (fun _ => ?_)
    refine AW_if_eq 34 dX10_hour_17 (by decide) (fun h2 => ?_) (fun h2 => ?_)
    · replace hf := rk_it hf h2
      refine AW_bipush (v := (-2)) dX10_hour_34 (by decide) ?_
      exact AW_iret dX10_hour_36 rfl (hq _ _ (Option.some.inj hf).symm)
    · replace hf := rk_if hf h2
      refine AW_iload_n3 dX10_hour_20 ?_
      refine AW_i2l dX10_hour_21 ?_
      refine AW_ldc2 dX10_hour_22 kv_X10_134 ?_
      refine AW_ldc2 dX10_hour_25 kv_X10_123 ?_
      replace hf := rk_bd hf
      obtain ⟨x3, e3, hf⟩ := hf
      refine AW_iS3iz (w_X10_in (d := 0) e3) dX10_hour_28 kl_X10_114 (Nat.le_trans (by decide) hd) (by decide) (Nat.le_of_ble_eq_true rfl) (fun _ => ?_)
      refine AW_if_ne 37 dX10_hour_31 (by decide) (fun h3 => ?_) (fun h3 => ?_)
      · replace hf := rk_if hf h3
        refine AW_aload_n0 dX10_hour_37 ?_
        refine AW_getR dX10_hour_38 kf_X10_29 rfl (hM.1 31 (by decide) (by decide)) (by decide) (hM.2 31 9 37 rfl) ?_
        refine AW_iconst (v := 3) dX10_hour_41 (by decide) ?_
        refine AW_iload_n1 dX10_hour_42 ?_
        refine AW_imul dX10_hour_43 ?_
        refine AW_iload_n2 dX10_hour_44 ?_
        refine AW_iadd dX10_hour_45 ?_
        replace hf := rk_bd hf
        obtain ⟨x4, e4, hf⟩ := hf
        refine AW_rd dX10_hour_46 (hM.1 37 (by decide) (by decide)) e4 ?_
        refine AW_istore_4 dX10_hour_47 (by decide) rfl ?_
        refine AW_aload_n0 dX10_hour_49 ?_
        refine AW_getR dX10_hour_50 kf_X10_29 rfl (hM.1 31 (by decide) (by decide)) (by decide) (hM.2 31 9 37 rfl) ?_
        refine AW_iconst (v := 3) dX10_hour_53 (by decide) ?_
        refine AW_iload_n1 dX10_hour_54 ?_
        refine AW_imul dX10_hour_55 ?_
        refine AW_iload_n2 dX10_hour_56 ?_
        refine AW_iadd dX10_hour_57 ?_
        refine AW_iload_n3 dX10_hour_58 ?_
        replace hf := rk_bd hf
        obtain ⟨I1, e5, hf⟩ := hf
        refine AW_wr dX10_hour_59 (hM.1 37 (by decide) (by decide)) e5 ?_
        refine AW_iload_4 dX10_hour_60 ?_
        exact AW_iret dX10_hour_62 rfl (hq _ _ (Option.some.inj hf).symm)
      · replace hf := rk_it hf h3
        refine AW_bipush (v := (-2)) dX10_hour_34 (by decide) ?_
        exact AW_iret dX10_hour_36 rfl (hq _ _ (Option.some.inj hf).symm)
theorem w_X10_hour {G : rk_G} {l : Launch} {d : Nat} {n : Nat} {S : rk_Sh} {I : rk_I} {J : rk_J} {R : rk_R} {a1 : Int32} {a2 : Int32} {a3 : Int32} {v8 : Int32} {I8 : rk_I} (hd : 2 ≤ d) (hM : rk_LM S R) (hf : f_X10_hour I a1 a2 a3 = some (v8, I8)) :
    CW G l yX10_hour cX10_hour 5 (some .int) d 0 0 [.ref 31, .int a1, .int a2, .int a3] n S I J R (rk_qi v8 n S I8 J R True) :=
  CW.of (by decide +kernel) (Nat.le_of_ble_eq_true rfl) (rk_sbs (rk_sbs (rk_sbs (rk_sbs (rk_sbe rk_sb0))))) (b_X10_hour hd hM hf (fun v9 I9 h9 => by cases h9; exact ⟨rfl, rfl, rfl, rfl, rfl, rfl, trivial⟩))
noncomputable def f_X9_isKind (a0 : Int32) : Option (Int32) :=
if a0 < 0 then (
some 0) else (
if 6 ≤ a0 then (
some 0) else (
some 1))
theorem b_X9_isKind {G : rk_G} {l : Launch} {d kc ks : Nat} {n : Nat} {S : rk_Sh} {I : rk_I} {J : rk_J} {R : rk_R} {Q : rk_Q} {a0 : Int32} {r : Int32} (hf : f_X9_isKind a0 = some r) (hq : ∀ (v9 : Int32), r = v9 → Q (some (.int v9)) n S I J R) :
    AW G l yX9_isKind cX9_isKind 1 (some .boolean) d kc ks 0 [some (.int a0)] [] n S I J R Q := by
  unfold f_X9_isKind at hf
  refine AW_iload_n0 dX9_isKind_0 ?_
  refine AW_if_lt 14 dX9_isKind_1 (by decide) (fun h1 => ?_) (fun h1 => ?_)
  · replace hf := rk_it hf h1
    refine AW_iconst (v := 0) dX9_isKind_14 (by decide) ?_
    exact AW_zret dX9_isKind_15 rfl rfl (hq _ (Option.some.inj hf).symm)
  · replace hf := rk_if hf h1
    refine AW_iload_n0 dX9_isKind_4 ?_
    refine AW_bipush (v := 6) dX9_isKind_5 (by decide) ?_
    refine AW_icmp_ge 14 dX9_isKind_7 (by decide) (fun h2 => ?_) (fun h2 => ?_)
    · replace hf := rk_it hf h2
      refine AW_iconst (v := 0) dX9_isKind_14 (by decide) ?_
      exact AW_zret dX9_isKind_15 rfl rfl (hq _ (Option.some.inj hf).symm)
    · replace hf := rk_if hf h2
      refine AW_iconst (v := 1) dX9_isKind_10 (by decide) ?_
      refine AW_goto 15 dX9_isKind_11 (by decide) ?_
      exact AW_zret dX9_isKind_15 rfl rfl (hq _ (Option.some.inj hf).symm)
theorem w_X9_isKind {G : rk_G} {l : Launch} {d : Nat} {n : Nat} {S : rk_Sh} {I : rk_I} {J : rk_J} {R : rk_R} {a0 : Int32} {v8 : Int32} (hf : f_X9_isKind a0 = some v8) :
    CW G l yX9_isKind cX9_isKind 1 (some .boolean) d 0 0 [.int a0] n S I J R (rk_qi v8 n S I J R True) :=
  CW.of (by decide +kernel) (Nat.le_of_ble_eq_true rfl) (rk_sbs rk_sb0) (b_X9_isKind hf (fun v9 h9 => by cases h9; exact ⟨rfl, rfl, rfl, rfl, rfl, rfl, trivial⟩))
noncomputable def f_X5_init (I : rk_I) (R : rk_R) (a0 : Nat) (a1 : Int32) (a2 : Nat) (a3 : Int32) (a4 : Int32) (a5 : Int32) (a6 : Int32) (a7 : Int32) : Option (rk_I × rk_R) :=
(some (rk_ui I a0 7 (-1))).bind fun I1 =>
(some (rk_ui I1 a0 9 (-1))).bind fun I2 =>
(some (rk_ui I2 a0 0 a1)).bind fun I3 =>
(some (rk_ur R a0 1 (some a2))).bind fun R1 =>
(some (rk_ui I3 a0 2 a3)).bind fun I4 =>
(some (rk_ui I4 a0 3 a4)).bind fun I5 =>
(some (rk_ui I5 a0 4 a5)).bind fun I6 =>
(some (rk_ui I6 a0 5 a6)).bind fun I7 =>
(some (rk_ui I7 a0 6 a7)).bind fun I8 =>
some (I8, R1)
theorem b_X5_init {G : rk_G} {l : Launch} {d kc ks : Nat} {n : Nat} {S : rk_Sh} {I : rk_I} {J : rk_J} {R : rk_R} {Q : rk_Q} {a0 : Nat} {a1 : Int32} {a2 : Nat} {a3 : Int32} {a4 : Int32} {a5 : Int32} {a6 : Int32} {a7 : Int32} {r : rk_I × rk_R} (hd : 1 ≤ d) (hS_a0 : S a0 = (5, 11)) (hS_a2 : S a2 = (0, 5)) (hf : f_X5_init I R a0 a1 a2 a3 a4 a5 a6 a7 = some r) (hq : ∀ (I9 : rk_I) (R9 : rk_R), r = (I9, R9) → Q (none) n S I9 J R9) :
    AW G l yX5_init cX5_init 8 none d kc ks 0 [some (.ref a0), some (.int a1), some (.ref a2), some (.int a3), some (.int a4), some (.int a5), some (.int a6), some (.int a7)] [] n S I J R Q := by
  unfold f_X5_init at hf
  refine AW_aload_n0 dX5_init_0 ?_
  refine AW_objInit dX5_init_1 ko_X5_3 (Nat.le_trans (by decide) hd) (Nat.le_of_ble_eq_true rfl) ?_
  refine AW_aload_n0 dX5_init_4 ?_
  refine AW_iconst (v := (-1)) dX5_init_5 (by decide) ?_
  replace hf := rk_bd hf
  obtain ⟨I1, e1, hf⟩ := hf
  refine AW_puI dX5_init_6 kf_X5_9 rfl hS_a0 (by decide) e1 ?_
  refine AW_aload_n0 dX5_init_9 ?_
  refine AW_iconst (v := (-1)) dX5_init_10 (by decide) ?_
  replace hf := rk_bd hf
  obtain ⟨I2, e2, hf⟩ := hf
  refine AW_puI dX5_init_11 kf_X5_15 rfl hS_a0 (by decide) e2 ?_
  refine AW_aload_n0 dX5_init_14 ?_
  refine AW_iload_n1 dX5_init_15 ?_
  replace hf := rk_bd hf
  obtain ⟨I3, e3, hf⟩ := hf
  refine AW_puI dX5_init_16 kf_X5_18 rfl hS_a0 (by decide) e3 ?_
  refine AW_aload_n0 dX5_init_19 ?_
  refine AW_aload_n2 dX5_init_20 ?_
  replace hf := rk_bd hf
  obtain ⟨R1, e4, hf⟩ := hf
  refine AW_puRF dX5_init_21 kf_X5_21 rfl hS_a0 (by decide) rfl rfl e4 ?_
  refine AW_aload_n0 dX5_init_24 ?_
  refine AW_iload_n3 dX5_init_25 ?_
  replace hf := rk_bd hf
  obtain ⟨I4, e5, hf⟩ := hf
  refine AW_puIF dX5_init_26 kf_X5_25 rfl hS_a0 (by decide) rfl rfl e5 ?_
  refine AW_aload_n0 dX5_init_29 ?_
  refine AW_iload_4 dX5_init_30 ?_
  replace hf := rk_bd hf
  obtain ⟨I5, e6, hf⟩ := hf
  refine AW_puIF dX5_init_32 kf_X5_28 rfl hS_a0 (by decide) rfl rfl e6 ?_
  refine AW_aload_n0 dX5_init_35 ?_
  refine AW_iload_5 dX5_init_36 ?_
  replace hf := rk_bd hf
  obtain ⟨I6, e7, hf⟩ := hf
  refine AW_puIF dX5_init_38 kf_X5_31 rfl hS_a0 (by decide) rfl rfl e7 ?_
  refine AW_aload_n0 dX5_init_41 ?_
  refine AW_iload_6 dX5_init_42 ?_
  replace hf := rk_bd hf
  obtain ⟨I7, e8, hf⟩ := hf
  refine AW_puIF dX5_init_44 kf_X5_34 rfl hS_a0 (by decide) rfl rfl e8 ?_
  refine AW_aload_n0 dX5_init_47 ?_
  refine AW_iload_7 dX5_init_48 ?_
  replace hf := rk_bd hf
  obtain ⟨I8, e9, hf⟩ := hf
  refine AW_puIF dX5_init_50 kf_X5_37 rfl hS_a0 (by decide) rfl rfl e9 ?_
  exact AW_vret dX5_init_53 rfl (hq _ _ (Option.some.inj hf).symm)
theorem w_X5_init {G : rk_G} {l : Launch} {d : Nat} {n : Nat} {S : rk_Sh} {I : rk_I} {J : rk_J} {R : rk_R} {a0 : Nat} {a1 : Int32} {a2 : Nat} {a3 : Int32} {a4 : Int32} {a5 : Int32} {a6 : Int32} {a7 : Int32} {I8 : rk_I} {R8 : rk_R} (hd : 1 ≤ d) (hS_a0 : S a0 = (5, 11)) (hS_a2 : S a2 = (0, 5)) (hf : f_X5_init I R a0 a1 a2 a3 a4 a5 a6 a7 = some (I8, R8)) :
    CW G l yX5_init cX5_init 8 none d 0 0 [.ref a0, .int a1, .ref a2, .int a3, .int a4, .int a5, .int a6, .int a7] n S I J R (rk_qv n S I8 J R8 True) :=
  CW.of (by decide +kernel) (Nat.le_of_ble_eq_true rfl) (rk_sbs (rk_sbs (rk_sbs (rk_sbs (rk_sbs (rk_sbs (rk_sbs (rk_sbs rk_sb0)))))))) (b_X5_init hd hS_a0 hS_a2 hf (fun I9 R9 h9 => by cases h9; exact ⟨rfl, rfl, rfl, rfl, rfl, rfl, trivial⟩))
noncomputable def f_X9_sale (n : Nat) (S : rk_Sh) (I : rk_I) (J : rk_J) (R : rk_R) (a1 : Int32) (a2 : Int32) (a3 : Int32) (a4 : Int32) (a5 : Int32) : Option (Int32 × Nat × rk_Sh × rk_I × rk_J × rk_R) :=
if 0 ≤ a2 then (
(f_X9_cargoAt I R (a2 / 100)).bind fun q1 =>
(f_X9_isKind a1).bind fun x1 =>
if x1 = 0 then (
some ((-2), n, S, I, J, R)) else (
rk_oc q1 (
some ((-2), n, S, I, J, R)) (fun o1 => (
(f_X9_isAmount a3).bind fun x2 =>
if x2 = 0 then (
some ((-2), n, S, I, J, R)) else (
if a4 < 0 then (
some ((-2), n, S, I, J, R)) else (
if 999 < a4 then (
some ((-2), n, S, I, J, R)) else (
(f_X9_isHour a5).bind fun x3 =>
if x3 = 0 then (
some ((-2), n, S, I, J, R)) else (
if (rk_md (a2 / 10) 10) = (rk_md a2 10) then (
some ((-2), n, S, I, J, R)) else (
if (I 0 3) < 24 then (
(rk_nck n).bind fun _ =>
(some (rk_sh S n 5 11)).bind fun S1 =>
(some (rk_zi I n)).bind fun I1 =>
(some (rk_zj J n)).bind fun J1 =>
(some (rk_zr R n)).bind fun R1 =>
rk_b2 (f_X5_init I1 R1 n a1 o1 (rk_md (a2 / 10) 10) (rk_md a2 10) a3 a4 a5) fun I2 R2 =>
(rk_ck S1 n 5 11).bind fun _ =>
(rk_ck S1 o1 0 5).bind fun _ =>
(rk_layC S1 R2).bind fun _ =>
(rk_wrR R2 2 24 (I 0 3) n).bind fun R3 =>
(some (rk_ui I2 0 3 ((I2 0 3) + 1))).bind fun I3 =>
some (((I3 0 3) - 1), (n + 1), S1, I3, J1, R3)) else (
some ((-4), n, S, I, J, R))))))))))) else (
(f_X9_isKind a1).bind fun x4 =>
if x4 = 0 then (
some ((-2), n, S, I, J, R)) else (
some ((-2), n, S, I, J, R)))
theorem b_X9_sale {G : rk_G} {l : Launch} {d : Nat} {n : Nat} {S : rk_Sh} {I : rk_I} {J : rk_J} {R : rk_R} {Q : rk_Q} {a1 : Int32} {a2 : Int32} {a3 : Int32} {a4 : Int32} {a5 : Int32} {r : Int32 × Nat × rk_Sh × rk_I × rk_J × rk_R} (hd : 2 ≤ d) (hL : rk_LC S R) (hf : f_X9_sale n S I J R a1 a2 a3 a4 a5 = some r) (hq : ∀ (v9 : Int32) (n9 : Nat) (S9 : rk_Sh) (I9 : rk_I) (J9 : rk_J) (R9 : rk_R), r = (v9, n9, S9, I9, J9, R9) → rk_LC S9 R9 → Q (some (.int v9)) n9 S9 I9 J9 R9) :
    AW G l yX9_sale cX9_sale 9 (some .int) d 1 11 0 [some (.ref 0), some (.int a1), some (.int a2), some (.int a3), some (.int a4), some (.int a5), none, none, none] [] n S I J R Q := by
  unfold f_X9_sale at hf
  refine AW_iload_n2 dX9_sale_0 ?_
  refine AW_if_ge 8 dX9_sale_1 (by decide) (fun h1 => ?_) (fun h1 => ?_)
  · replace hf := rk_it hf h1
    refine AW_aload_n0 dX9_sale_8 ?_
    refine AW_iload_n2 dX9_sale_9 ?_
    refine AW_bipush (v := 100) dX9_sale_10 (by decide) ?_
    refine AW_idiv dX9_sale_12 (by decide) ?_
    replace hf := rk_bd hf
    obtain ⟨q1, e1, hf⟩ := hf
    refine AW_iV1oz (w_X9_cargoAt (d := 0) hL e1) dX9_sale_13 kl_X9_109 (hL.1 0 (by decide)) rfl (Nat.le_trans (by decide) hd) (by decide) (Nat.le_of_ble_eq_true rfl) (fun _ => ?_)
    refine AW_astoreO_6 dX9_sale_16 (by decide) rfl ?_
    refine AW_iload_n1 dX9_sale_18 ?_
    replace hf := rk_bd hf
    obtain ⟨x1, e2, hf⟩ := hf
    refine AW_iS1iz (w_X9_isKind (d := 0) e2) dX9_sale_19 kl_X9_119 (Nat.le_trans (by decide) hd) (by decide) (Nat.le_of_ble_eq_true rfl) (fun _ => ?_)
    refine AW_if_eq 58 dX9_sale_22 (by decide) (fun h2 => ?_) (fun h2 => ?_)
    · replace hf := rk_it hf h2
      refine AW_bipush (v := (-2)) dX9_sale_58 (by decide) ?_
      exact AW_iret dX9_sale_60 rfl (hq _ _ _ _ _ _ (Option.some.inj hf).symm hL)
    · replace hf := rk_if hf h2
      refine AW_aloadO_6 dX9_sale_25 ?_
      rcases q1 with _ | o1
      · replace hf := rk_oc_n hf
        refine AW_ifnullN 58 dX9_sale_27 (by decide) ?_
        refine AW_bipush (v := (-2)) dX9_sale_58 (by decide) ?_
        exact AW_iret dX9_sale_60 rfl (hq _ _ _ _ _ _ (Option.some.inj hf).symm hL)
      · replace hf := rk_oc_s hf
        refine AW_ifnull dX9_sale_27 ?_
        refine AW_iload_n3 dX9_sale_30 ?_
        replace hf := rk_bd hf
        obtain ⟨x2, e3, hf⟩ := hf
        refine AW_iS1iz (w_X9_isAmount (d := 0) e3) dX9_sale_31 kl_X9_96 (Nat.le_trans (by decide) hd) (by decide) (Nat.le_of_ble_eq_true rfl) (fun _ => ?_)
        refine AW_if_eq 58 dX9_sale_34 (by decide) (fun h3 => ?_) (fun h3 => ?_)
        · replace hf := rk_it hf h3
          refine AW_bipush (v := (-2)) dX9_sale_58 (by decide) ?_
          exact AW_iret dX9_sale_60 rfl (hq _ _ _ _ _ _ (Option.some.inj hf).symm hL)
        · replace hf := rk_if hf h3
          refine AW_iload_4 dX9_sale_37 ?_
          refine AW_if_lt 58 dX9_sale_39 (by decide) (fun h4 => ?_) (fun h4 => ?_)
          · replace hf := rk_it hf h4
            refine AW_bipush (v := (-2)) dX9_sale_58 (by decide) ?_
            exact AW_iret dX9_sale_60 rfl (hq _ _ _ _ _ _ (Option.some.inj hf).symm hL)
          · replace hf := rk_if hf h4
            refine AW_iload_4 dX9_sale_42 ?_
            refine AW_sipush (v := 999) dX9_sale_44 (by decide) ?_
            refine AW_icmp_gt 58 dX9_sale_47 (by decide) (fun h5 => ?_) (fun h5 => ?_)
            · replace hf := rk_it hf h5
              refine AW_bipush (v := (-2)) dX9_sale_58 (by decide) ?_
              exact AW_iret dX9_sale_60 rfl (hq _ _ _ _ _ _ (Option.some.inj hf).symm hL)
            · replace hf := rk_if hf h5
              refine AW_iload_5 dX9_sale_50 ?_
              replace hf := rk_bd hf
              obtain ⟨x3, e4, hf⟩ := hf
              refine AW_iS1iz (w_X9_isHour (d := 0) e4) dX9_sale_52 kl_X9_122 (Nat.le_trans (by decide) hd) (by decide) (Nat.le_of_ble_eq_true rfl) (fun _ => ?_)
              refine AW_if_ne 61 dX9_sale_55 (by decide) (fun h6 => ?_) (fun h6 => ?_)
              · replace hf := rk_if hf h6
                refine AW_iload_n2 dX9_sale_61 ?_
                refine AW_bipush (v := 10) dX9_sale_62 (by decide) ?_
                refine AW_idiv dX9_sale_64 (by decide) ?_
                refine AW_bipush (v := 10) dX9_sale_65 (by decide) ?_
                refine AW_md dX9_sale_67 (by decide) ?_
                refine AW_istore_7 dX9_sale_68 (by decide) rfl ?_
                refine AW_iload_n2 dX9_sale_70 ?_
                refine AW_bipush (v := 10) dX9_sale_71 (by decide) ?_
                refine AW_md dX9_sale_73 (by decide) ?_
                refine AW_istore_8 dX9_sale_74 (by decide) rfl ?_
                refine AW_iload_7 dX9_sale_76 ?_
                refine AW_iload_8 dX9_sale_78 ?_
                refine AW_icmp_ne 86 dX9_sale_80 (by decide) (fun h7 => ?_) (fun h7 => ?_)
                · replace hf := rk_if hf h7
                  refine AW_aload_n0 dX9_sale_86 ?_
                  refine AW_getI dX9_sale_87 kf_X9_125 rfl (hL.1 0 (by decide)) (by decide) ?_
                  refine AW_bipush (v := 24) dX9_sale_90 (by decide) ?_
                  refine AW_icmp_lt 98 dX9_sale_92 (by decide) (fun h8 => ?_) (fun h8 => ?_)
                  · replace hf := rk_it hf h8
                    refine AW_aload_n0 dX9_sale_98 ?_
                    refine AW_getR dX9_sale_99 kf_X9_17 rfl (hL.1 0 (by decide)) (by decide) (hL.2 0 2 2 rfl) ?_
                    refine AW_aload_n0 dX9_sale_102 ?_
                    refine AW_getI dX9_sale_103 kf_X9_125 rfl (hL.1 0 (by decide)) (by decide) ?_
                    replace hf := rk_bd hf
                    obtain ⟨_, e5, hf⟩ := hf
                    have e5 := rk_nck_sp e5
                    replace hf := rk_bd hf
                    obtain ⟨S1, e6, hf⟩ := hf
                    replace hf := rk_bd hf
                    obtain ⟨I1, e7, hf⟩ := hf
                    replace hf := rk_bd hf
                    obtain ⟨J1, e8, hf⟩ := hf
                    replace hf := rk_bd hf
                    obtain ⟨R1, e9, hf⟩ := hf
                    refine AW_nwO dX9_sale_106 kc_X9_15 e5 e6 e7 e8 e9 ?_
                    refine AW_dup dX9_sale_109 rfl ?_
                    refine AW_iload_n1 dX9_sale_110 ?_
                    refine AW_aload_6 dX9_sale_111 ?_
                    refine AW_iload_7 dX9_sale_113 ?_
                    refine AW_iload_8 dX9_sale_115 ?_
                    refine AW_iload_n3 dX9_sale_117 ?_
                    refine AW_iload_4 dX9_sale_118 ?_
                    refine AW_iload_5 dX9_sale_120 ?_
                    replace hf := rk_bd2 hf
                    obtain ⟨I2, R2, e10, hf⟩ := hf
                    replace hf := rk_bd hf
                    obtain ⟨_, e11, hf⟩ := hf
                    have e11 := rk_ck_sp e11
                    replace hf := rk_bd hf
                    obtain ⟨_, e12, hf⟩ := hf
                    have e12 := rk_ck_sp e12
                    refine AW_iI7vz (w_X5_init (d := 1) (Nat.le_refl _) e11 e12 e10) dX9_sale_122 kl_X9_128 (Nat.le_trans (by decide) hd) (by decide) (Nat.le_of_ble_eq_true rfl) (fun _ => ?_)
                    replace hf := rk_bd hf
                    obtain ⟨_, e13, hf⟩ := hf
                    have e13 := rk_layC_sp e13
                    replace hf := rk_bd hf
                    obtain ⟨R3, e14, hf⟩ := hf
                    refine AW_wrR dX9_sale_125 (e13.1 2 (by decide)) (Or.inr (Or.inl rfl)) e11 e14 ?_
                    have hL1 := rk_LC_wr e13 e14 (fun _ => rfl)
                    refine AW_aload_n0 dX9_sale_126 ?_
                    refine AW_dup dX9_sale_127 rfl ?_
                    refine AW_getI dX9_sale_128 kf_X9_125 rfl (hL1.1 0 (by decide)) (by decide) ?_
                    refine AW_iconst (v := 1) dX9_sale_131 (by decide) ?_
                    refine AW_iadd dX9_sale_132 ?_
                    replace hf := rk_bd hf
                    obtain ⟨I3, e15, hf⟩ := hf
                    refine AW_puI dX9_sale_133 kf_X9_125 rfl (hL1.1 0 (by decide)) (by decide) e15 ?_
                    refine AW_aload_n0 dX9_sale_136 ?_
                    refine AW_getI dX9_sale_137 kf_X9_125 rfl (hL1.1 0 (by decide)) (by decide) ?_
                    refine AW_iconst (v := 1) dX9_sale_140 (by decide) ?_
                    refine AW_isub dX9_sale_141 ?_
                    exact AW_iret dX9_sale_142 rfl (hq _ _ _ _ _ _ (Option.some.inj hf).symm hL1)
                  · replace hf := rk_if hf h8
                    refine AW_bipush (v := (-4)) dX9_sale_95 (by decide) ?_
                    exact AW_iret dX9_sale_97 rfl (hq _ _ _ _ _ _ (Option.some.inj hf).symm hL)
                · replace hf := rk_it hf h7
                  refine AW_bipush (v := (-2)) dX9_sale_83 (by decide) ?_
                  exact AW_iret dX9_sale_85 rfl (hq _ _ _ _ _ _ (Option.some.inj hf).symm hL)
              · replace hf := rk_it hf h6
                refine AW_bipush (v := (-2)) dX9_sale_58 (by decide) ?_
                exact AW_iret dX9_sale_60 rfl (hq _ _ _ _ _ _ (Option.some.inj hf).symm hL)
  · replace hf := rk_if hf h1
    refine AW_null dX9_sale_4 ?_
    refine AW_goto 16 dX9_sale_5 (by decide) ?_
    refine AW_astoreN_6 dX9_sale_16 (by decide) rfl ?_
    refine AW_iload_n1 dX9_sale_18 ?_
    replace hf := rk_bd hf
    obtain ⟨x4, e16, hf⟩ := hf
    refine AW_iS1iz (w_X9_isKind (d := 0) e16) dX9_sale_19 kl_X9_119 (Nat.le_trans (by decide) hd) (by decide) (Nat.le_of_ble_eq_true rfl) (fun _ => ?_)
    refine AW_if_eq 58 dX9_sale_22 (by decide) (fun h9 => ?_) (fun h9 => ?_)
    · replace hf := rk_it hf h9
      refine AW_bipush (v := (-2)) dX9_sale_58 (by decide) ?_
      exact AW_iret dX9_sale_60 rfl (hq _ _ _ _ _ _ (Option.some.inj hf).symm hL)
    · replace hf := rk_if hf h9
      refine AW_aloadN_6 dX9_sale_25 ?_
      refine AW_ifnullN 58 dX9_sale_27 (by decide) ?_
      refine AW_bipush (v := (-2)) dX9_sale_58 (by decide) ?_
      exact AW_iret dX9_sale_60 rfl (hq _ _ _ _ _ _ (Option.some.inj hf).symm hL)
theorem w_X9_sale {G : rk_G} {l : Launch} {d : Nat} {n : Nat} {S : rk_Sh} {I : rk_I} {J : rk_J} {R : rk_R} {a1 : Int32} {a2 : Int32} {a3 : Int32} {a4 : Int32} {a5 : Int32} {v8 : Int32} {n8 : Nat} {S8 : rk_Sh} {I8 : rk_I} {J8 : rk_J} {R8 : rk_R} (hd : 2 ≤ d) (hL : rk_LC S R) (hf : f_X9_sale n S I J R a1 a2 a3 a4 a5 = some (v8, n8, S8, I8, J8, R8)) :
    CW G l yX9_sale cX9_sale 9 (some .int) d 1 11 [.ref 0, .int a1, .int a2, .int a3, .int a4, .int a5] n S I J R (rk_qi v8 n8 S8 I8 J8 R8 (rk_LC S8 R8)) :=
  CW.of (by decide +kernel) (Nat.le_of_ble_eq_true rfl) (rk_sbs (rk_sbs (rk_sbs (rk_sbs (rk_sbs (rk_sbs (rk_sbe (rk_sbe (rk_sbe rk_sb0))))))))) (b_X9_sale hd hL hf (fun v9 n9 S9 I9 J9 R9 h9 hl9 => by cases h9; exact ⟨rfl, rfl, rfl, rfl, rfl, rfl, hl9⟩))
noncomputable def f_X10_isHour (a0 : Int32) : Option (Int32) :=
(f_X10_in a0.toInt64 0 999).bind fun x1 =>
(rk_bl x1).bind fun x2 =>
some x2
theorem b_X10_isHour {G : rk_G} {l : Launch} {d kc ks : Nat} {n : Nat} {S : rk_Sh} {I : rk_I} {J : rk_J} {R : rk_R} {Q : rk_Q} {a0 : Int32} {r : Int32} (hd : 1 ≤ d) (hf : f_X10_isHour a0 = some r) (hq : ∀ (v9 : Int32), r = v9 → Q (some (.int v9)) n S I J R) :
    AW G l yX10_isHour cX10_isHour 1 (some .boolean) d kc ks 0 [some (.int a0)] [] n S I J R Q := by
  unfold f_X10_isHour at hf
  refine AW_iload_n0 dX10_isHour_0 ?_
  refine AW_i2l dX10_isHour_1 ?_
  refine AW_lconst (v := 0) dX10_isHour_2 (by decide) ?_
  refine AW_ldc2 dX10_isHour_3 kv_X10_123 ?_
  replace hf := rk_bd hf
  obtain ⟨x1, e1, hf⟩ := hf
  refine AW_iS3iz (w_X10_in (d := 0) e1) dX10_isHour_6 kl_X10_114 (Nat.le_trans (by decide) hd) (by decide) (Nat.le_of_ble_eq_true rfl) (fun _ => ?_)
  replace hf := rk_bd hf
  obtain ⟨x2, e2, hf⟩ := hf
  exact AW_zr dX10_isHour_9 rfl e2 (hq _ (Option.some.inj hf).symm)
theorem w_X10_isHour {G : rk_G} {l : Launch} {d : Nat} {n : Nat} {S : rk_Sh} {I : rk_I} {J : rk_J} {R : rk_R} {a0 : Int32} {v8 : Int32} (hd : 1 ≤ d) (hf : f_X10_isHour a0 = some v8) :
    CW G l yX10_isHour cX10_isHour 1 (some .boolean) d 0 0 [.int a0] n S I J R (rk_qi v8 n S I J R True) :=
  CW.of (by decide +kernel) (Nat.le_of_ble_eq_true rfl) (rk_sbs rk_sb0) (b_X10_isHour hd hf (fun v9 h9 => by cases h9; exact ⟨rfl, rfl, rfl, rfl, rfl, rfl, trivial⟩))
noncomputable def f_X10_sale (I : rk_I) (a1 : Int32) (a2 : Int32) (a3 : Int32) (a4 : Int32) (a5 : Int32) : Option (Int32 × rk_I) :=
(f_X10_in a1.toInt64 0 5).bind fun x1 =>
if x1 = 0 then (
some ((-2), I)) else (
if a2 < 0 then (
some ((-2), I)) else (
(f_X10_isCargo I (a2 / 100)).bind fun x2 =>
if x2 = 0 then (
some ((-2), I)) else (
if (rk_md (a2 / 10) 10) = (rk_md a2 10) then (
some ((-2), I)) else (
(f_X10_in a3.toInt64 1 999).bind fun x3 =>
if x3 = 0 then (
some ((-2), I)) else (
(f_X10_in a4.toInt64 0 999).bind fun x4 =>
if x4 = 0 then (
some ((-2), I)) else (
(f_X10_isHour a5).bind fun x5 =>
if x5 = 0 then (
some ((-2), I)) else (
if (I 31 20) = 24 then (
some ((-4), I)) else (
(rk_wr I 38 24 (I 31 20) a1).bind fun I1 =>
(rk_wr I1 39 24 (I1 31 20) (a2 / 100)).bind fun I2 =>
(rk_wr I2 40 24 (I2 31 20) (rk_md (a2 / 10) 10)).bind fun I3 =>
(rk_wr I3 41 24 (I3 31 20) (rk_md a2 10)).bind fun I4 =>
(rk_wr I4 42 24 (I4 31 20) a3).bind fun I5 =>
(rk_wr I5 43 24 (I5 31 20) a4).bind fun I6 =>
(rk_wr I6 44 24 (I6 31 20) a5).bind fun I7 =>
(rk_wr I7 45 24 (I7 31 20) (-1)).bind fun I8 =>
(rk_wr I8 46 24 (I8 31 20) 0).bind fun I9 =>
(some (rk_ui I9 31 20 ((I9 31 20) + 1))).bind fun I10 =>
some (((I10 31 20) - 1), I10)))))))))
theorem b_X10_sale {G : rk_G} {l : Launch} {d kc ks : Nat} {n : Nat} {S : rk_Sh} {I : rk_I} {J : rk_J} {R : rk_R} {Q : rk_Q} {a1 : Int32} {a2 : Int32} {a3 : Int32} {a4 : Int32} {a5 : Int32} {r : Int32 × rk_I} (hd : 2 ≤ d) (hM : rk_LM S R) (hf : f_X10_sale I a1 a2 a3 a4 a5 = some r) (hq : ∀ (v9 : Int32) (I9 : rk_I), r = (v9, I9) → Q (some (.int v9)) n S I9 J R) :
    AW G l yX10_sale cX10_sale 6 (some .int) d kc ks 0 [some (.ref 31), some (.int a1), some (.int a2), some (.int a3), some (.int a4), some (.int a5)] [] n S I J R Q := by
  unfold f_X10_sale at hf
  refine AW_iload_n1 dX10_sale_0 ?_
  refine AW_i2l dX10_sale_1 ?_
  refine AW_lconst (v := 0) dX10_sale_2 (by decide) ?_
  refine AW_ldc2 dX10_sale_3 kv_X10_136 ?_
  replace hf := rk_bd hf
  obtain ⟨x1, e1, hf⟩ := hf
  refine AW_iS3iz (w_X10_in (d := 0) e1) dX10_sale_6 kl_X10_114 (Nat.le_trans (by decide) hd) (by decide) (Nat.le_of_ble_eq_true rfl) (fun _ => ?_)
  refine AW_if_eq 74 dX10_sale_9 (by decide) (fun h1 => ?_) (fun h1 => ?_)
  · replace hf := rk_it hf h1
    refine AW_bipush (v := (-2)) dX10_sale_74 (by decide) ?_
    exact AW_iret dX10_sale_76 rfl (hq _ _ (Option.some.inj hf).symm)
  · replace hf := rk_if hf h1
    refine AW_iload_n2 dX10_sale_12 ?_
    refine AW_if_lt 74 dX10_sale_13 (by decide) (fun h2 => ?_) (fun h2 => ?_)
    · replace hf := rk_it hf h2
      refine AW_bipush (v := (-2)) dX10_sale_74 (by decide) ?_
      exact AW_iret dX10_sale_76 rfl (hq _ _ (Option.some.inj hf).symm)
    · replace hf := rk_if hf h2
      refine AW_aload_n0 dX10_sale_16 ?_
      refine AW_iload_n2 dX10_sale_17 ?_
      refine AW_bipush (v := 100) dX10_sale_18 (by decide) ?_
      refine AW_idiv dX10_sale_20 (by decide) ?_
      replace hf := rk_bd hf
      obtain ⟨x2, e2, hf⟩ := hf
      refine AW_iV1iz (w_X10_isCargo (d := 1) (Nat.le_refl _) hM e2) dX10_sale_21 kl_X10_129 (hM.1 31 (by decide) (by decide)) rfl (Nat.le_trans (by decide) hd) (by decide) (Nat.le_of_ble_eq_true rfl) (fun _ => ?_)
      refine AW_if_eq 74 dX10_sale_24 (by decide) (fun h3 => ?_) (fun h3 => ?_)
      · replace hf := rk_it hf h3
        refine AW_bipush (v := (-2)) dX10_sale_74 (by decide) ?_
        exact AW_iret dX10_sale_76 rfl (hq _ _ (Option.some.inj hf).symm)
      · replace hf := rk_if hf h3
        refine AW_iload_n2 dX10_sale_27 ?_
        refine AW_bipush (v := 10) dX10_sale_28 (by decide) ?_
        refine AW_idiv dX10_sale_30 (by decide) ?_
        refine AW_bipush (v := 10) dX10_sale_31 (by decide) ?_
        refine AW_md dX10_sale_33 (by decide) ?_
        refine AW_iload_n2 dX10_sale_34 ?_
        refine AW_bipush (v := 10) dX10_sale_35 (by decide) ?_
        refine AW_md dX10_sale_37 (by decide) ?_
        refine AW_icmp_eq 74 dX10_sale_38 (by decide) (fun h4 => ?_) (fun h4 => ?_)
        · replace hf := rk_it hf h4
          refine AW_bipush (v := (-2)) dX10_sale_74 (by decide) ?_
          exact AW_iret dX10_sale_76 rfl (hq _ _ (Option.some.inj hf).symm)
        · replace hf := rk_if hf h4
          refine AW_iload_n3 dX10_sale_41 ?_
          refine AW_i2l dX10_sale_42 ?_
          refine AW_lconst (v := 1) dX10_sale_43 (by decide) ?_
          refine AW_ldc2 dX10_sale_44 kv_X10_123 ?_
          replace hf := rk_bd hf
          obtain ⟨x3, e3, hf⟩ := hf
          refine AW_iS3iz (w_X10_in (d := 0) e3) dX10_sale_47 kl_X10_114 (Nat.le_trans (by decide) hd) (by decide) (Nat.le_of_ble_eq_true rfl) (fun _ => ?_)
          refine AW_if_eq 74 dX10_sale_50 (by decide) (fun h5 => ?_) (fun h5 => ?_)
          · replace hf := rk_it hf h5
            refine AW_bipush (v := (-2)) dX10_sale_74 (by decide) ?_
            exact AW_iret dX10_sale_76 rfl (hq _ _ (Option.some.inj hf).symm)
          · replace hf := rk_if hf h5
            refine AW_iload_4 dX10_sale_53 ?_
            refine AW_i2l dX10_sale_55 ?_
            refine AW_lconst (v := 0) dX10_sale_56 (by decide) ?_
            refine AW_ldc2 dX10_sale_57 kv_X10_123 ?_
            replace hf := rk_bd hf
            obtain ⟨x4, e4, hf⟩ := hf
            refine AW_iS3iz (w_X10_in (d := 0) e4) dX10_sale_60 kl_X10_114 (Nat.le_trans (by decide) hd) (by decide) (Nat.le_of_ble_eq_true rfl) (fun _ => ?_)
            refine AW_if_eq 74 dX10_sale_63 (by decide) (fun h6 => ?_) (fun h6 => ?_)
            · replace hf := rk_it hf h6
              refine AW_bipush (v := (-2)) dX10_sale_74 (by decide) ?_
              exact AW_iret dX10_sale_76 rfl (hq _ _ (Option.some.inj hf).symm)
            · replace hf := rk_if hf h6
              refine AW_iload_5 dX10_sale_66 ?_
              replace hf := rk_bd hf
              obtain ⟨x5, e5, hf⟩ := hf
              refine AW_iS1iz (w_X10_isHour (d := 1) (Nat.le_refl _) e5) dX10_sale_68 kl_X10_138 (Nat.le_trans (by decide) hd) (by decide) (Nat.le_of_ble_eq_true rfl) (fun _ => ?_)
              refine AW_if_ne 77 dX10_sale_71 (by decide) (fun h7 => ?_) (fun h7 => ?_)
              · replace hf := rk_if hf h7
                refine AW_aload_n0 dX10_sale_77 ?_
                refine AW_getI dX10_sale_78 kf_X10_118 rfl (hM.1 31 (by decide) (by decide)) (by decide) ?_
                refine AW_bipush (v := 24) dX10_sale_81 (by decide) ?_
                refine AW_icmp_ne 89 dX10_sale_83 (by decide) (fun h8 => ?_) (fun h8 => ?_)
                · replace hf := rk_if hf h8
                  refine AW_aload_n0 dX10_sale_89 ?_
                  refine AW_getR dX10_sale_90 kf_X10_32 rfl (hM.1 31 (by decide) (by decide)) (by decide) (hM.2 31 11 38 rfl) ?_
                  refine AW_aload_n0 dX10_sale_93 ?_
                  refine AW_getI dX10_sale_94 kf_X10_118 rfl (hM.1 31 (by decide) (by decide)) (by decide) ?_
                  refine AW_iload_n1 dX10_sale_97 ?_
                  replace hf := rk_bd hf
                  obtain ⟨I1, e6, hf⟩ := hf
                  refine AW_wr dX10_sale_98 (hM.1 38 (by decide) (by decide)) e6 ?_
                  refine AW_aload_n0 dX10_sale_99 ?_
                  refine AW_getR dX10_sale_100 kf_X10_35 rfl (hM.1 31 (by decide) (by decide)) (by decide) (hM.2 31 12 39 rfl) ?_
                  refine AW_aload_n0 dX10_sale_103 ?_
                  refine AW_getI dX10_sale_104 kf_X10_118 rfl (hM.1 31 (by decide) (by decide)) (by decide) ?_
                  refine AW_iload_n2 dX10_sale_107 ?_
                  refine AW_bipush (v := 100) dX10_sale_108 (by decide) ?_
                  refine AW_idiv dX10_sale_110 (by decide) ?_
                  replace hf := rk_bd hf
                  obtain ⟨I2, e7, hf⟩ := hf
                  refine AW_wr dX10_sale_111 (hM.1 39 (by decide) (by decide)) e7 ?_
                  refine AW_aload_n0 dX10_sale_112 ?_
                  refine AW_getR dX10_sale_113 kf_X10_38 rfl (hM.1 31 (by decide) (by decide)) (by decide) (hM.2 31 13 40 rfl) ?_
                  refine AW_aload_n0 dX10_sale_116 ?_
                  refine AW_getI dX10_sale_117 kf_X10_118 rfl (hM.1 31 (by decide) (by decide)) (by decide) ?_
                  refine AW_iload_n2 dX10_sale_120 ?_
                  refine AW_bipush (v := 10) dX10_sale_121 (by decide) ?_
                  refine AW_idiv dX10_sale_123 (by decide) ?_
                  refine AW_bipush (v := 10) dX10_sale_124 (by decide) ?_
                  refine AW_md dX10_sale_126 (by decide) ?_
                  replace hf := rk_bd hf
                  obtain ⟨I3, e8, hf⟩ := hf
                  refine AW_wr dX10_sale_127 (hM.1 40 (by decide) (by decide)) e8 ?_
                  refine AW_aload_n0 dX10_sale_128 ?_
                  refine AW_getR dX10_sale_129 kf_X10_41 rfl (hM.1 31 (by decide) (by decide)) (by decide) (hM.2 31 14 41 rfl) ?_
                  refine AW_aload_n0 dX10_sale_132 ?_
                  refine AW_getI dX10_sale_133 kf_X10_118 rfl (hM.1 31 (by decide) (by decide)) (by decide) ?_
                  refine AW_iload_n2 dX10_sale_136 ?_
                  refine AW_bipush (v := 10) dX10_sale_137 (by decide) ?_
                  refine AW_md dX10_sale_139 (by decide) ?_
                  replace hf := rk_bd hf
                  obtain ⟨I4, e9, hf⟩ := hf
                  refine AW_wr dX10_sale_140 (hM.1 41 (by decide) (by decide)) e9 ?_
                  refine AW_aload_n0 dX10_sale_141 ?_
                  refine AW_getR dX10_sale_142 kf_X10_44 rfl (hM.1 31 (by decide) (by decide)) (by decide) (hM.2 31 15 42 rfl) ?_
                  refine AW_aload_n0 dX10_sale_145 ?_
                  refine AW_getI dX10_sale_146 kf_X10_118 rfl (hM.1 31 (by decide) (by decide)) (by decide) ?_
                  refine AW_iload_n3 dX10_sale_149 ?_
                  replace hf := rk_bd hf
                  obtain ⟨I5, e10, hf⟩ := hf
                  refine AW_wr dX10_sale_150 (hM.1 42 (by decide) (by decide)) e10 ?_
                  refine AW_aload_n0 dX10_sale_151 ?_
                  refine AW_getR dX10_sale_152 kf_X10_47 rfl (hM.1 31 (by decide) (by decide)) (by decide) (hM.2 31 16 43 rfl) ?_
                  refine AW_aload_n0 dX10_sale_155 ?_
                  refine AW_getI dX10_sale_156 kf_X10_118 rfl (hM.1 31 (by decide) (by decide)) (by decide) ?_
                  refine AW_iload_4 dX10_sale_159 ?_
                  replace hf := rk_bd hf
                  obtain ⟨I6, e11, hf⟩ := hf
                  refine AW_wr dX10_sale_161 (hM.1 43 (by decide) (by decide)) e11 ?_
                  refine AW_aload_n0 dX10_sale_162 ?_
                  refine AW_getR dX10_sale_163 kf_X10_50 rfl (hM.1 31 (by decide) (by decide)) (by decide) (hM.2 31 17 44 rfl) ?_
                  refine AW_aload_n0 dX10_sale_166 ?_
                  refine AW_getI dX10_sale_167 kf_X10_118 rfl (hM.1 31 (by decide) (by decide)) (by decide) ?_
                  refine AW_iload_5 dX10_sale_170 ?_
                  replace hf := rk_bd hf
                  obtain ⟨I7, e12, hf⟩ := hf
                  refine AW_wr dX10_sale_172 (hM.1 44 (by decide) (by decide)) e12 ?_
                  refine AW_aload_n0 dX10_sale_173 ?_
                  refine AW_getR dX10_sale_174 kf_X10_53 rfl (hM.1 31 (by decide) (by decide)) (by decide) (hM.2 31 18 45 rfl) ?_
                  refine AW_aload_n0 dX10_sale_177 ?_
                  refine AW_getI dX10_sale_178 kf_X10_118 rfl (hM.1 31 (by decide) (by decide)) (by decide) ?_
                  refine AW_iconst (v := (-1)) dX10_sale_181 (by decide) ?_
                  replace hf := rk_bd hf
                  obtain ⟨I8, e13, hf⟩ := hf
                  refine AW_wr dX10_sale_182 (hM.1 45 (by decide) (by decide)) e13 ?_
                  refine AW_aload_n0 dX10_sale_183 ?_
                  refine AW_getR dX10_sale_184 kf_X10_56 rfl (hM.1 31 (by decide) (by decide)) (by decide) (hM.2 31 19 46 rfl) ?_
                  refine AW_aload_n0 dX10_sale_187 ?_
                  refine AW_getI dX10_sale_188 kf_X10_118 rfl (hM.1 31 (by decide) (by decide)) (by decide) ?_
                  refine AW_iconst (v := 0) dX10_sale_191 (by decide) ?_
                  replace hf := rk_bd hf
                  obtain ⟨I9, e14, hf⟩ := hf
                  refine AW_wr dX10_sale_192 (hM.1 46 (by decide) (by decide)) e14 ?_
                  refine AW_aload_n0 dX10_sale_193 ?_
                  refine AW_dup dX10_sale_194 rfl ?_
                  refine AW_getI dX10_sale_195 kf_X10_118 rfl (hM.1 31 (by decide) (by decide)) (by decide) ?_
                  refine AW_iconst (v := 1) dX10_sale_198 (by decide) ?_
                  refine AW_iadd dX10_sale_199 ?_
                  replace hf := rk_bd hf
                  obtain ⟨I10, e15, hf⟩ := hf
                  refine AW_puI dX10_sale_200 kf_X10_118 rfl (hM.1 31 (by decide) (by decide)) (by decide) e15 ?_
                  refine AW_aload_n0 dX10_sale_203 ?_
                  refine AW_getI dX10_sale_204 kf_X10_118 rfl (hM.1 31 (by decide) (by decide)) (by decide) ?_
                  refine AW_iconst (v := 1) dX10_sale_207 (by decide) ?_
                  refine AW_isub dX10_sale_208 ?_
                  exact AW_iret dX10_sale_209 rfl (hq _ _ (Option.some.inj hf).symm)
                · replace hf := rk_it hf h8
                  refine AW_bipush (v := (-4)) dX10_sale_86 (by decide) ?_
                  exact AW_iret dX10_sale_88 rfl (hq _ _ (Option.some.inj hf).symm)
              · replace hf := rk_it hf h7
                refine AW_bipush (v := (-2)) dX10_sale_74 (by decide) ?_
                exact AW_iret dX10_sale_76 rfl (hq _ _ (Option.some.inj hf).symm)
theorem w_X10_sale {G : rk_G} {l : Launch} {d : Nat} {n : Nat} {S : rk_Sh} {I : rk_I} {J : rk_J} {R : rk_R} {a1 : Int32} {a2 : Int32} {a3 : Int32} {a4 : Int32} {a5 : Int32} {v8 : Int32} {I8 : rk_I} (hd : 2 ≤ d) (hM : rk_LM S R) (hf : f_X10_sale I a1 a2 a3 a4 a5 = some (v8, I8)) :
    CW G l yX10_sale cX10_sale 6 (some .int) d 0 0 [.ref 31, .int a1, .int a2, .int a3, .int a4, .int a5] n S I J R (rk_qi v8 n S I8 J R True) :=
  CW.of (by decide +kernel) (Nat.le_of_ble_eq_true rfl) (rk_sbs (rk_sbs (rk_sbs (rk_sbs (rk_sbs (rk_sbs rk_sb0)))))) (b_X10_sale hd hM hf (fun v9 I9 h9 => by cases h9; exact ⟨rfl, rfl, rfl, rfl, rfl, rfl, trivial⟩))
noncomputable def f_X9_saleAt (I : rk_I) (R : rk_R) (a1 : Int32) : Option (Option Nat) :=
if a1 < 0 then (
some none) else (
if (I 0 3) ≤ a1 then (
some none) else (
(rk_rdR R 2 24 a1).bind fun q1 =>
some q1))
theorem b_X9_saleAt {G : rk_G} {l : Launch} {d kc ks : Nat} {n : Nat} {S : rk_Sh} {I : rk_I} {J : rk_J} {R : rk_R} {Q : rk_Q} {a1 : Int32} {r : Option Nat} (hL : rk_LC S R) (hf : f_X9_saleAt I R a1 = some r) (hq : ∀ (v9 : Option Nat), r = v9 → Q (some (rk_o v9)) n S I J R) :
    AW G l yX9_saleAt cX9_saleAt 2 (some (.object "RailCargo$Sale")) d kc ks 0 [some (.ref 0), some (.int a1)] [] n S I J R Q := by
  unfold f_X9_saleAt at hf
  refine AW_iload_n1 dX9_saleAt_0 ?_
  refine AW_if_lt 21 dX9_saleAt_1 (by decide) (fun h1 => ?_) (fun h1 => ?_)
  · replace hf := rk_it hf h1
    refine AW_null dX9_saleAt_21 ?_
    exact AW_aretO (q := none) dX9_saleAt_22 rfl (hq _ (Option.some.inj hf).symm)
  · replace hf := rk_if hf h1
    refine AW_iload_n1 dX9_saleAt_4 ?_
    refine AW_aload_n0 dX9_saleAt_5 ?_
    refine AW_getI dX9_saleAt_6 kf_X9_125 rfl (hL.1 0 (by decide)) (by decide) ?_
    refine AW_icmp_ge 21 dX9_saleAt_9 (by decide) (fun h2 => ?_) (fun h2 => ?_)
    · replace hf := rk_it hf h2
      refine AW_null dX9_saleAt_21 ?_
      exact AW_aretO (q := none) dX9_saleAt_22 rfl (hq _ (Option.some.inj hf).symm)
    · replace hf := rk_if hf h2
      refine AW_aload_n0 dX9_saleAt_12 ?_
      refine AW_getR dX9_saleAt_13 kf_X9_17 rfl (hL.1 0 (by decide)) (by decide) (hL.2 0 2 2 rfl) ?_
      refine AW_iload_n1 dX9_saleAt_16 ?_
      replace hf := rk_bd hf
      obtain ⟨q1, e1, hf⟩ := hf
      refine AW_rdR dX9_saleAt_17 (hL.1 2 (by decide)) (by decide) e1 ?_
      refine AW_goto 22 dX9_saleAt_18 (by decide) ?_
      exact AW_aretO (q := q1) dX9_saleAt_22 rfl (hq _ (Option.some.inj hf).symm)
theorem w_X9_saleAt {G : rk_G} {l : Launch} {d : Nat} {n : Nat} {S : rk_Sh} {I : rk_I} {J : rk_J} {R : rk_R} {a1 : Int32} {v8 : Option Nat} (hL : rk_LC S R) (hf : f_X9_saleAt I R a1 = some v8) :
    CW G l yX9_saleAt cX9_saleAt 2 (some (.object "RailCargo$Sale")) d 0 0 [.ref 0, .int a1] n S I J R (rk_qo v8 n S I J R True) :=
  CW.of (by decide +kernel) (Nat.le_of_ble_eq_true rfl) (rk_sbs (rk_sbs rk_sb0)) (b_X9_saleAt hL hf (fun v9 h9 => by cases h9; exact ⟨rfl, rfl, rfl, rfl, rfl, rfl, trivial⟩))
noncomputable def f_X9_paper (S : rk_Sh) (I : rk_I) (R : rk_R) (a1 : Int32) (a2 : Int32) : Option (Int32 × rk_I) :=
(f_X9_saleAt I R a1).bind fun q1 =>
rk_oc q1 (
some ((-2), I)) (fun o1 => (
(f_X9_isHourOrNone a2).bind fun x1 =>
if x1 = 0 then (
some ((-2), I)) else (
(rk_ck S o1 5 11).bind fun _ =>
(some (rk_ui I o1 7 a2)).bind fun I1 =>
some ((I o1 7), I1))))
theorem b_X9_paper {G : rk_G} {l : Launch} {d kc ks : Nat} {n : Nat} {S : rk_Sh} {I : rk_I} {J : rk_J} {R : rk_R} {Q : rk_Q} {a1 : Int32} {a2 : Int32} {r : Int32 × rk_I} (hd : 2 ≤ d) (hL : rk_LC S R) (hf : f_X9_paper S I R a1 a2 = some r) (hq : ∀ (v9 : Int32) (I9 : rk_I), r = (v9, I9) → Q (some (.int v9)) n S I9 J R) :
    AW G l yX9_paper cX9_paper 5 (some .int) d kc ks 0 [some (.ref 0), some (.int a1), some (.int a2), none, none] [] n S I J R Q := by
  unfold f_X9_paper at hf
  refine AW_aload_n0 dX9_paper_0 ?_
  refine AW_iload_n1 dX9_paper_1 ?_
  replace hf := rk_bd hf
  obtain ⟨q1, e1, hf⟩ := hf
  refine AW_iV1oz (w_X9_saleAt (d := 0) hL e1) dX9_paper_2 kl_X9_131 (hL.1 0 (by decide)) rfl (Nat.le_trans (by decide) hd) (by decide) (Nat.le_of_ble_eq_true rfl) (fun _ => ?_)
  refine AW_astoreO_n3 dX9_paper_5 (by decide) rfl ?_
  refine AW_aloadO_n3 dX9_paper_6 ?_
  rcases q1 with _ | o1
  · replace hf := rk_oc_n hf
    refine AW_ifnullN 17 dX9_paper_7 (by decide) ?_
    refine AW_bipush (v := (-2)) dX9_paper_17 (by decide) ?_
    exact AW_iret dX9_paper_19 rfl (hq _ _ (Option.some.inj hf).symm)
  · replace hf := rk_oc_s hf
    refine AW_ifnull dX9_paper_7 ?_
    refine AW_iload_n2 dX9_paper_10 ?_
    replace hf := rk_bd hf
    obtain ⟨x1, e2, hf⟩ := hf
    refine AW_iS1iz (w_X9_isHourOrNone (d := 1) (Nat.le_refl _) e2) dX9_paper_11 kl_X9_113 (Nat.le_trans (by decide) hd) (by decide) (Nat.le_of_ble_eq_true rfl) (fun _ => ?_)
    refine AW_if_ne 20 dX9_paper_14 (by decide) (fun h1 => ?_) (fun h1 => ?_)
    · replace hf := rk_if hf h1
      refine AW_aload_n3 dX9_paper_20 ?_
      replace hf := rk_bd hf
      obtain ⟨_, e3, hf⟩ := hf
      have e3 := rk_ck_sp e3
      refine AW_getI dX9_paper_21 kf_X9_135 rfl e3 (by decide) ?_
      refine AW_istore_4 dX9_paper_24 (by decide) rfl ?_
      refine AW_aload_n3 dX9_paper_26 ?_
      refine AW_iload_n2 dX9_paper_27 ?_
      replace hf := rk_bd hf
      obtain ⟨I1, e4, hf⟩ := hf
      refine AW_puI dX9_paper_28 kf_X9_135 rfl e3 (by decide) e4 ?_
      refine AW_iload_4 dX9_paper_31 ?_
      exact AW_iret dX9_paper_33 rfl (hq _ _ (Option.some.inj hf).symm)
    · replace hf := rk_it hf h1
      refine AW_bipush (v := (-2)) dX9_paper_17 (by decide) ?_
      exact AW_iret dX9_paper_19 rfl (hq _ _ (Option.some.inj hf).symm)
theorem w_X9_paper {G : rk_G} {l : Launch} {d : Nat} {n : Nat} {S : rk_Sh} {I : rk_I} {J : rk_J} {R : rk_R} {a1 : Int32} {a2 : Int32} {v8 : Int32} {I8 : rk_I} (hd : 2 ≤ d) (hL : rk_LC S R) (hf : f_X9_paper S I R a1 a2 = some (v8, I8)) :
    CW G l yX9_paper cX9_paper 5 (some .int) d 0 0 [.ref 0, .int a1, .int a2] n S I J R (rk_qi v8 n S I8 J R True) :=
  CW.of (by decide +kernel) (Nat.le_of_ble_eq_true rfl) (rk_sbs (rk_sbs (rk_sbs (rk_sbe (rk_sbe rk_sb0))))) (b_X9_paper hd hL hf (fun v9 I9 h9 => by cases h9; exact ⟨rfl, rfl, rfl, rfl, rfl, rfl, trivial⟩))
noncomputable def f_X10_isSale (I : rk_I) (a1 : Int32) : Option (Int32) :=
(f_X10_in a1.toInt64 0 ((I 31 20) - 1).toInt64).bind fun x1 =>
(rk_bl x1).bind fun x2 =>
some x2
theorem b_X10_isSale {G : rk_G} {l : Launch} {d kc ks : Nat} {n : Nat} {S : rk_Sh} {I : rk_I} {J : rk_J} {R : rk_R} {Q : rk_Q} {a1 : Int32} {r : Int32} (hd : 1 ≤ d) (hM : rk_LM S R) (hf : f_X10_isSale I a1 = some r) (hq : ∀ (v9 : Int32), r = v9 → Q (some (.int v9)) n S I J R) :
    AW G l yX10_isSale cX10_isSale 2 (some .boolean) d kc ks 0 [some (.ref 31), some (.int a1)] [] n S I J R Q := by
  unfold f_X10_isSale at hf
  refine AW_iload_n1 dX10_isSale_0 ?_
  refine AW_i2l dX10_isSale_1 ?_
  refine AW_lconst (v := 0) dX10_isSale_2 (by decide) ?_
  refine AW_aload_n0 dX10_isSale_3 ?_
  refine AW_getI dX10_isSale_4 kf_X10_118 rfl (hM.1 31 (by decide) (by decide)) (by decide) ?_
  refine AW_iconst (v := 1) dX10_isSale_7 (by decide) ?_
  refine AW_isub dX10_isSale_8 ?_
  refine AW_i2l dX10_isSale_9 ?_
  replace hf := rk_bd hf
  obtain ⟨x1, e1, hf⟩ := hf
  refine AW_iS3iz (w_X10_in (d := 0) e1) dX10_isSale_10 kl_X10_114 (Nat.le_trans (by decide) hd) (by decide) (Nat.le_of_ble_eq_true rfl) (fun _ => ?_)
  replace hf := rk_bd hf
  obtain ⟨x2, e2, hf⟩ := hf
  exact AW_zr dX10_isSale_13 rfl e2 (hq _ (Option.some.inj hf).symm)
theorem w_X10_isSale {G : rk_G} {l : Launch} {d : Nat} {n : Nat} {S : rk_Sh} {I : rk_I} {J : rk_J} {R : rk_R} {a1 : Int32} {v8 : Int32} (hd : 1 ≤ d) (hM : rk_LM S R) (hf : f_X10_isSale I a1 = some v8) :
    CW G l yX10_isSale cX10_isSale 2 (some .boolean) d 0 0 [.ref 31, .int a1] n S I J R (rk_qi v8 n S I J R True) :=
  CW.of (by decide +kernel) (Nat.le_of_ble_eq_true rfl) (rk_sbs (rk_sbs rk_sb0)) (b_X10_isSale hd hM hf (fun v9 h9 => by cases h9; exact ⟨rfl, rfl, rfl, rfl, rfl, rfl, trivial⟩))
noncomputable def f_X10_paper (I : rk_I) (a1 : Int32) (a2 : Int32) : Option (Int32 × rk_I) :=
(f_X10_isSale I a1).bind fun x1 =>
if x1 = 0 then (
some ((-2), I)) else (
(f_X10_in a2.toInt64 (-1) 999).bind fun x2 =>
if x2 = 0 then (
some ((-2), I)) else (
(rk_rd I 45 24 a1).bind fun x3 =>
(rk_wr I 45 24 a1 a2).bind fun I1 =>
some (x3, I1)))
theorem b_X10_paper {G : rk_G} {l : Launch} {d kc ks : Nat} {n : Nat} {S : rk_Sh} {I : rk_I} {J : rk_J} {R : rk_R} {Q : rk_Q} {a1 : Int32} {a2 : Int32} {r : Int32 × rk_I} (hd : 2 ≤ d) (hM : rk_LM S R) (hf : f_X10_paper I a1 a2 = some r) (hq : ∀ (v9 : Int32) (I9 : rk_I), r = (v9, I9) → Q (some (.int v9)) n S I9 J R) :
    AW G l yX10_paper cX10_paper 4 (some .int) d kc ks 0 [some (.ref 31), some (.int a1), some (.int a2), none] [] n S I J R Q := by
  unfold f_X10_paper at hf
  refine AW_aload_n0 dX10_paper_0 ?_
  refine AW_iload_n1 dX10_paper_1 ?_
  replace hf := rk_bd hf
  obtain ⟨x1, e1, hf⟩ := hf
  refine AW_iV1iz (w_X10_isSale (d := 1) (Nat.le_refl _) hM e1) dX10_paper_2 kl_X10_141 (hM.1 31 (by decide) (by decide)) rfl (Nat.le_trans (by decide) hd) (by decide) (Nat.le_of_ble_eq_true rfl) (fun _ => ?_)
  refine AW_if_eq 22 dX10_paper_5 (by decide) (fun h1 => ?_) (fun h1 => ?_)
  · replace hf := rk_it hf h1
    refine AW_bipush (v := (-2)) dX10_paper_22 (by decide) ?_
    exact AW_iret dX10_paper_24 rfl (hq _ _ (Option.some.inj hf).symm)
  · replace hf := rk_if hf h1
    refine AW_iload_n2 dX10_paper_8 ?_
    refine AW_i2l dX10_paper_9 ?_
    refine AW_ldc2 dX10_paper_10 kv_X10_134 ?_
    refine AW_ldc2 dX10_paper_13 kv_X10_123 ?_
    replace hf := rk_bd hf
    obtain ⟨x2, e2, hf⟩ := hf
    refine AW_iS3iz (w_X10_in (d := 0) e2) dX10_paper_16 kl_X10_114 (Nat.le_trans (by decide) hd) (by decide) (Nat.le_of_ble_eq_true rfl) (fun _ => ?_)
    refine AW_if_ne 25 dX10_paper_19 (by decide) (fun h2 => ?_) (fun h2 => ?_)
    · replace hf := rk_if hf h2
      refine AW_aload_n0 dX10_paper_25 ?_
      refine AW_getR dX10_paper_26 kf_X10_53 rfl (hM.1 31 (by decide) (by decide)) (by decide) (hM.2 31 18 45 rfl) ?_
      refine AW_iload_n1 dX10_paper_29 ?_
      replace hf := rk_bd hf
      obtain ⟨x3, e3, hf⟩ := hf
      refine AW_rd dX10_paper_30 (hM.1 45 (by decide) (by decide)) e3 ?_
      refine AW_istore_n3 dX10_paper_31 (by decide) rfl ?_
      refine AW_aload_n0 dX10_paper_32 ?_
      refine AW_getR dX10_paper_33 kf_X10_53 rfl (hM.1 31 (by decide) (by decide)) (by decide) (hM.2 31 18 45 rfl) ?_
      refine AW_iload_n1 dX10_paper_36 ?_
      refine AW_iload_n2 dX10_paper_37 ?_
      replace hf := rk_bd hf
      obtain ⟨I1, e4, hf⟩ := hf
      refine AW_wr dX10_paper_38 (hM.1 45 (by decide) (by decide)) e4 ?_
      refine AW_iload_n3 dX10_paper_39 ?_
      exact AW_iret dX10_paper_40 rfl (hq _ _ (Option.some.inj hf).symm)
    · replace hf := rk_it hf h2
      refine AW_bipush (v := (-2)) dX10_paper_22 (by decide) ?_
      exact AW_iret dX10_paper_24 rfl (hq _ _ (Option.some.inj hf).symm)
theorem w_X10_paper {G : rk_G} {l : Launch} {d : Nat} {n : Nat} {S : rk_Sh} {I : rk_I} {J : rk_J} {R : rk_R} {a1 : Int32} {a2 : Int32} {v8 : Int32} {I8 : rk_I} (hd : 2 ≤ d) (hM : rk_LM S R) (hf : f_X10_paper I a1 a2 = some (v8, I8)) :
    CW G l yX10_paper cX10_paper 4 (some .int) d 0 0 [.ref 31, .int a1, .int a2] n S I J R (rk_qi v8 n S I8 J R True) :=
  CW.of (by decide +kernel) (Nat.le_of_ble_eq_true rfl) (rk_sbs (rk_sbs (rk_sbs (rk_sbe rk_sb0)))) (b_X10_paper hd hM hf (fun v9 I9 h9 => by cases h9; exact ⟨rfl, rfl, rfl, rfl, rfl, rfl, trivial⟩))
noncomputable def f_X9_isCoin (a0 : Int32) : Option (Int32) :=
if a0 < 0 then (
some 0) else (
if 999999 < a0 then (
some 0) else (
some 1))
theorem b_X9_isCoin {G : rk_G} {l : Launch} {d kc ks : Nat} {n : Nat} {S : rk_Sh} {I : rk_I} {J : rk_J} {R : rk_R} {Q : rk_Q} {a0 : Int32} {r : Int32} (hf : f_X9_isCoin a0 = some r) (hq : ∀ (v9 : Int32), r = v9 → Q (some (.int v9)) n S I J R) :
    AW G l yX9_isCoin cX9_isCoin 1 (some .boolean) d kc ks 0 [some (.int a0)] [] n S I J R Q := by
  unfold f_X9_isCoin at hf
  refine AW_iload_n0 dX9_isCoin_0 ?_
  refine AW_if_lt 14 dX9_isCoin_1 (by decide) (fun h1 => ?_) (fun h1 => ?_)
  · replace hf := rk_it hf h1
    refine AW_iconst (v := 0) dX9_isCoin_14 (by decide) ?_
    exact AW_zret dX9_isCoin_15 rfl rfl (hq _ (Option.some.inj hf).symm)
  · replace hf := rk_if hf h1
    refine AW_iload_n0 dX9_isCoin_4 ?_
    refine AW_ldc dX9_isCoin_5 kv_X9_141 ?_
    refine AW_icmp_gt 14 dX9_isCoin_7 (by decide) (fun h2 => ?_) (fun h2 => ?_)
    · replace hf := rk_it hf h2
      refine AW_iconst (v := 0) dX9_isCoin_14 (by decide) ?_
      exact AW_zret dX9_isCoin_15 rfl rfl (hq _ (Option.some.inj hf).symm)
    · replace hf := rk_if hf h2
      refine AW_iconst (v := 1) dX9_isCoin_10 (by decide) ?_
      refine AW_goto 15 dX9_isCoin_11 (by decide) ?_
      exact AW_zret dX9_isCoin_15 rfl rfl (hq _ (Option.some.inj hf).symm)
theorem w_X9_isCoin {G : rk_G} {l : Launch} {d : Nat} {n : Nat} {S : rk_Sh} {I : rk_I} {J : rk_J} {R : rk_R} {a0 : Int32} {v8 : Int32} (hf : f_X9_isCoin a0 = some v8) :
    CW G l yX9_isCoin cX9_isCoin 1 (some .boolean) d 0 0 [.int a0] n S I J R (rk_qi v8 n S I J R True) :=
  CW.of (by decide +kernel) (Nat.le_of_ble_eq_true rfl) (rk_sbs rk_sb0) (b_X9_isCoin hf (fun v9 h9 => by cases h9; exact ⟨rfl, rfl, rfl, rfl, rfl, rfl, trivial⟩))
noncomputable def f_X9_pay (S : rk_Sh) (I : rk_I) (R : rk_R) (a1 : Int32) (a2 : Int32) : Option (Int32 × rk_I) :=
(f_X9_saleAt I R a1).bind fun q1 =>
rk_oc q1 (
some ((-2), I)) (fun o1 => (
(f_X9_isCoin a2).bind fun x1 =>
if x1 = 0 then (
some ((-2), I)) else (
(rk_ck S o1 5 11).bind fun _ =>
if a2 ≤ (999999 - (I o1 8)) then (
(some (rk_ui I o1 8 ((I o1 8) + a2))).bind fun I1 =>
some ((I1 o1 8), I1)) else (
some ((-4), I)))))
theorem b_X9_pay {G : rk_G} {l : Launch} {d kc ks : Nat} {n : Nat} {S : rk_Sh} {I : rk_I} {J : rk_J} {R : rk_R} {Q : rk_Q} {a1 : Int32} {a2 : Int32} {r : Int32 × rk_I} (hd : 1 ≤ d) (hL : rk_LC S R) (hf : f_X9_pay S I R a1 a2 = some r) (hq : ∀ (v9 : Int32) (I9 : rk_I), r = (v9, I9) → Q (some (.int v9)) n S I9 J R) :
    AW G l yX9_pay cX9_pay 4 (some .int) d kc ks 0 [some (.ref 0), some (.int a1), some (.int a2), none] [] n S I J R Q := by
  unfold f_X9_pay at hf
  refine AW_aload_n0 dX9_pay_0 ?_
  refine AW_iload_n1 dX9_pay_1 ?_
  replace hf := rk_bd hf
  obtain ⟨q1, e1, hf⟩ := hf
  refine AW_iV1oz (w_X9_saleAt (d := 0) hL e1) dX9_pay_2 kl_X9_131 (hL.1 0 (by decide)) rfl (Nat.le_trans (by decide) hd) (by decide) (Nat.le_of_ble_eq_true rfl) (fun _ => ?_)
  refine AW_astoreO_n3 dX9_pay_5 (by decide) rfl ?_
  refine AW_aloadO_n3 dX9_pay_6 ?_
  rcases q1 with _ | o1
  · replace hf := rk_oc_n hf
    refine AW_ifnullN 17 dX9_pay_7 (by decide) ?_
    refine AW_bipush (v := (-2)) dX9_pay_17 (by decide) ?_
    exact AW_iret dX9_pay_19 rfl (hq _ _ (Option.some.inj hf).symm)
  · replace hf := rk_oc_s hf
    refine AW_ifnull dX9_pay_7 ?_
    refine AW_iload_n2 dX9_pay_10 ?_
    replace hf := rk_bd hf
    obtain ⟨x1, e2, hf⟩ := hf
    refine AW_iS1iz (w_X9_isCoin (d := 0) e2) dX9_pay_11 kl_X9_138 (Nat.le_trans (by decide) hd) (by decide) (Nat.le_of_ble_eq_true rfl) (fun _ => ?_)
    refine AW_if_ne 20 dX9_pay_14 (by decide) (fun h1 => ?_) (fun h1 => ?_)
    · replace hf := rk_if hf h1
      refine AW_iload_n2 dX9_pay_20 ?_
      refine AW_ldc dX9_pay_21 kv_X9_141 ?_
      refine AW_aload_n3 dX9_pay_23 ?_
      replace hf := rk_bd hf
      obtain ⟨_, e3, hf⟩ := hf
      have e3 := rk_ck_sp e3
      refine AW_getI dX9_pay_24 kf_X9_142 rfl e3 (by decide) ?_
      refine AW_isub dX9_pay_27 ?_
      refine AW_icmp_le 34 dX9_pay_28 (by decide) (fun h2 => ?_) (fun h2 => ?_)
      · replace hf := rk_it hf h2
        refine AW_aload_n3 dX9_pay_34 ?_
        refine AW_dup dX9_pay_35 rfl ?_
        refine AW_getI dX9_pay_36 kf_X9_142 rfl e3 (by decide) ?_
        refine AW_iload_n2 dX9_pay_39 ?_
        refine AW_iadd dX9_pay_40 ?_
        replace hf := rk_bd hf
        obtain ⟨I1, e4, hf⟩ := hf
        refine AW_puI dX9_pay_41 kf_X9_142 rfl e3 (by decide) e4 ?_
        refine AW_aload_n3 dX9_pay_44 ?_
        refine AW_getI dX9_pay_45 kf_X9_142 rfl e3 (by decide) ?_
        exact AW_iret dX9_pay_48 rfl (hq _ _ (Option.some.inj hf).symm)
      · replace hf := rk_if hf h2
        refine AW_bipush (v := (-4)) dX9_pay_31 (by decide) ?_
        exact AW_iret dX9_pay_33 rfl (hq _ _ (Option.some.inj hf).symm)
    · replace hf := rk_it hf h1
      refine AW_bipush (v := (-2)) dX9_pay_17 (by decide) ?_
      exact AW_iret dX9_pay_19 rfl (hq _ _ (Option.some.inj hf).symm)
theorem w_X9_pay {G : rk_G} {l : Launch} {d : Nat} {n : Nat} {S : rk_Sh} {I : rk_I} {J : rk_J} {R : rk_R} {a1 : Int32} {a2 : Int32} {v8 : Int32} {I8 : rk_I} (hd : 1 ≤ d) (hL : rk_LC S R) (hf : f_X9_pay S I R a1 a2 = some (v8, I8)) :
    CW G l yX9_pay cX9_pay 4 (some .int) d 0 0 [.ref 0, .int a1, .int a2] n S I J R (rk_qi v8 n S I8 J R True) :=
  CW.of (by decide +kernel) (Nat.le_of_ble_eq_true rfl) (rk_sbs (rk_sbs (rk_sbs (rk_sbe rk_sb0)))) (b_X9_pay hd hL hf (fun v9 I9 h9 => by cases h9; exact ⟨rfl, rfl, rfl, rfl, rfl, rfl, trivial⟩))
noncomputable def f_X10_pay (I : rk_I) (a1 : Int32) (a2 : Int32) : Option (Int32 × rk_I) :=
(f_X10_isSale I a1).bind fun x1 =>
if x1 = 0 then (
some ((-2), I)) else (
(f_X10_in a2.toInt64 0 999999).bind fun x2 =>
if x2 = 0 then (
some ((-2), I)) else (
(rk_rd I 46 24 a1).bind fun x3 =>
if (x3 + a2) ≤ 999999 then (
(rk_rd I 46 24 a1).bind fun x4 =>
(rk_wr I 46 24 a1 (x4 + a2)).bind fun I1 =>
(rk_rd I1 46 24 a1).bind fun x5 =>
some (x5, I1)) else (
some ((-4), I))))
theorem b_X10_pay {G : rk_G} {l : Launch} {d kc ks : Nat} {n : Nat} {S : rk_Sh} {I : rk_I} {J : rk_J} {R : rk_R} {Q : rk_Q} {a1 : Int32} {a2 : Int32} {r : Int32 × rk_I} (hd : 2 ≤ d) (hM : rk_LM S R) (hf : f_X10_pay I a1 a2 = some r) (hq : ∀ (v9 : Int32) (I9 : rk_I), r = (v9, I9) → Q (some (.int v9)) n S I9 J R) :
    AW G l yX10_pay cX10_pay 3 (some .int) d kc ks 0 [some (.ref 31), some (.int a1), some (.int a2)] [] n S I J R Q := by
  unfold f_X10_pay at hf
  refine AW_aload_n0 dX10_pay_0 ?_
  refine AW_iload_n1 dX10_pay_1 ?_
  replace hf := rk_bd hf
  obtain ⟨x1, e1, hf⟩ := hf
  refine AW_iV1iz (w_X10_isSale (d := 1) (Nat.le_refl _) hM e1) dX10_pay_2 kl_X10_141 (hM.1 31 (by decide) (by decide)) rfl (Nat.le_trans (by decide) hd) (by decide) (Nat.le_of_ble_eq_true rfl) (fun _ => ?_)
  refine AW_if_eq 20 dX10_pay_5 (by decide) (fun h1 => ?_) (fun h1 => ?_)
  · replace hf := rk_it hf h1
    refine AW_bipush (v := (-2)) dX10_pay_20 (by decide) ?_
    exact AW_iret dX10_pay_22 rfl (hq _ _ (Option.some.inj hf).symm)
  · replace hf := rk_if hf h1
    refine AW_iload_n2 dX10_pay_8 ?_
    refine AW_i2l dX10_pay_9 ?_
    refine AW_lconst (v := 0) dX10_pay_10 (by decide) ?_
    refine AW_ldc2 dX10_pay_11 kv_X10_144 ?_
    replace hf := rk_bd hf
    obtain ⟨x2, e2, hf⟩ := hf
    refine AW_iS3iz (w_X10_in (d := 0) e2) dX10_pay_14 kl_X10_114 (Nat.le_trans (by decide) hd) (by decide) (Nat.le_of_ble_eq_true rfl) (fun _ => ?_)
    refine AW_if_ne 23 dX10_pay_17 (by decide) (fun h2 => ?_) (fun h2 => ?_)
    · replace hf := rk_if hf h2
      refine AW_aload_n0 dX10_pay_23 ?_
      refine AW_getR dX10_pay_24 kf_X10_56 rfl (hM.1 31 (by decide) (by decide)) (by decide) (hM.2 31 19 46 rfl) ?_
      refine AW_iload_n1 dX10_pay_27 ?_
      replace hf := rk_bd hf
      obtain ⟨x3, e3, hf⟩ := hf
      refine AW_rd dX10_pay_28 (hM.1 46 (by decide) (by decide)) e3 ?_
      refine AW_iload_n2 dX10_pay_29 ?_
      refine AW_iadd dX10_pay_30 ?_
      refine AW_ldc dX10_pay_31 kv_X10_146 ?_
      refine AW_icmp_le 39 dX10_pay_33 (by decide) (fun h3 => ?_) (fun h3 => ?_)
      · replace hf := rk_it hf h3
        refine AW_aload_n0 dX10_pay_39 ?_
        refine AW_getR dX10_pay_40 kf_X10_56 rfl (hM.1 31 (by decide) (by decide)) (by decide) (hM.2 31 19 46 rfl) ?_
        refine AW_iload_n1 dX10_pay_43 ?_
        refine AW_dup2 dX10_pay_44 rfl rfl ?_
        replace hf := rk_bd hf
        obtain ⟨x4, e4, hf⟩ := hf
        refine AW_rd dX10_pay_45 (hM.1 46 (by decide) (by decide)) e4 ?_
        refine AW_iload_n2 dX10_pay_46 ?_
        refine AW_iadd dX10_pay_47 ?_
        replace hf := rk_bd hf
        obtain ⟨I1, e5, hf⟩ := hf
        refine AW_wr dX10_pay_48 (hM.1 46 (by decide) (by decide)) e5 ?_
        refine AW_aload_n0 dX10_pay_49 ?_
        refine AW_getR dX10_pay_50 kf_X10_56 rfl (hM.1 31 (by decide) (by decide)) (by decide) (hM.2 31 19 46 rfl) ?_
        refine AW_iload_n1 dX10_pay_53 ?_
        replace hf := rk_bd hf
        obtain ⟨x5, e6, hf⟩ := hf
        refine AW_rd dX10_pay_54 (hM.1 46 (by decide) (by decide)) e6 ?_
        exact AW_iret dX10_pay_55 rfl (hq _ _ (Option.some.inj hf).symm)
      · replace hf := rk_if hf h3
        refine AW_bipush (v := (-4)) dX10_pay_36 (by decide) ?_
        exact AW_iret dX10_pay_38 rfl (hq _ _ (Option.some.inj hf).symm)
    · replace hf := rk_it hf h2
      refine AW_bipush (v := (-2)) dX10_pay_20 (by decide) ?_
      exact AW_iret dX10_pay_22 rfl (hq _ _ (Option.some.inj hf).symm)
theorem w_X10_pay {G : rk_G} {l : Launch} {d : Nat} {n : Nat} {S : rk_Sh} {I : rk_I} {J : rk_J} {R : rk_R} {a1 : Int32} {a2 : Int32} {v8 : Int32} {I8 : rk_I} (hd : 2 ≤ d) (hM : rk_LM S R) (hf : f_X10_pay I a1 a2 = some (v8, I8)) :
    CW G l yX10_pay cX10_pay 3 (some .int) d 0 0 [.ref 31, .int a1, .int a2] n S I J R (rk_qi v8 n S I8 J R True) :=
  CW.of (by decide +kernel) (Nat.le_of_ble_eq_true rfl) (rk_sbs (rk_sbs (rk_sbs rk_sb0))) (b_X10_pay hd hM hf (fun v9 I9 h9 => by cases h9; exact ⟨rfl, rfl, rfl, rfl, rfl, rfl, trivial⟩))
noncomputable def f_X5_laterOf (a0 : Int32) (a1 : Int32) : Option (Int32) :=
if a0 = (-1) then (
some 1000) else (
some (rk_max a0 a1))
theorem b_X5_laterOf {G : rk_G} {l : Launch} {d kc ks : Nat} {n : Nat} {S : rk_Sh} {I : rk_I} {J : rk_J} {R : rk_R} {Q : rk_Q} {a0 : Int32} {a1 : Int32} {r : Int32} (hd : 1 ≤ d) (hf : f_X5_laterOf a0 a1 = some r) (hq : ∀ (v9 : Int32), r = v9 → Q (some (.int v9)) n S I J R) :
    AW G l yX5_laterOf cX5_laterOf 2 (some .int) d kc ks 0 [some (.int a0), some (.int a1)] [] n S I J R Q := by
  unfold f_X5_laterOf at hf
  refine AW_iload_n0 dX5_laterOf_0 ?_
  refine AW_iconst (v := (-1)) dX5_laterOf_1 (by decide) ?_
  refine AW_icmp_ne 11 dX5_laterOf_2 (by decide) (fun h1 => ?_) (fun h1 => ?_)
  · replace hf := rk_if hf h1
    refine AW_iload_n0 dX5_laterOf_11 ?_
    refine AW_iload_n1 dX5_laterOf_12 ?_
    refine AW_mmax dX5_laterOf_13 km_X5_61 (Nat.le_trans (by decide) hd) (Nat.le_of_ble_eq_true rfl) ?_
    exact AW_iret dX5_laterOf_16 rfl (hq _ (Option.some.inj hf).symm)
  · replace hf := rk_it hf h1
    refine AW_sipush (v := 1000) dX5_laterOf_5 (by decide) ?_
    refine AW_goto 16 dX5_laterOf_8 (by decide) ?_
    exact AW_iret dX5_laterOf_16 rfl (hq _ (Option.some.inj hf).symm)
theorem w_X5_laterOf {G : rk_G} {l : Launch} {d : Nat} {n : Nat} {S : rk_Sh} {I : rk_I} {J : rk_J} {R : rk_R} {a0 : Int32} {a1 : Int32} {v8 : Int32} (hd : 1 ≤ d) (hf : f_X5_laterOf a0 a1 = some v8) :
    CW G l yX5_laterOf cX5_laterOf 2 (some .int) d 0 0 [.int a0, .int a1] n S I J R (rk_qi v8 n S I J R True) :=
  CW.of (by decide +kernel) (Nat.le_of_ble_eq_true rfl) (rk_sbs (rk_sbs rk_sb0)) (b_X5_laterOf hd hf (fun v9 h9 => by cases h9; exact ⟨rfl, rfl, rfl, rfl, rfl, rfl, trivial⟩))
noncomputable def f_X5_thingHour (S : rk_Sh) (I : rk_I) (R : rk_R) (a0 : Nat) : Option (Int32) :=
if (I a0 0) = 1 then (
(some (R a0 1)).bind fun q1 =>
(rk_dr S 0 5 q1).bind fun o1 =>
(some (R o1 3)).bind fun q2 =>
(q2).bind fun o2 =>
(rk_rdD S I o2 0).bind fun x1 =>
(f_X5_laterOf x1 (I a0 6)).bind fun x2 =>
some x2) else
if (I a0 0) = 2 then (
(some (R a0 1)).bind fun q3 =>
(rk_dr S 0 5 q3).bind fun o3 =>
(some (R o3 3)).bind fun q4 =>
(q4).bind fun o4 =>
(rk_rdD S I o4 1).bind fun x3 =>
(f_X5_laterOf x3 (I a0 6)).bind fun x4 =>
some x4) else
if (I a0 0) = 3 then (
(f_X5_laterOf (I a0 7) (I a0 6)).bind fun x5 =>
some x5) else
if (I a0 0) = 4 then (
(some (R a0 1)).bind fun q5 =>
(rk_dr S 0 5 q5).bind fun o5 =>
(some (R o5 3)).bind fun q6 =>
(q6).bind fun o6 =>
(rk_rdD S I o6 2).bind fun x6 =>
(some (R a0 1)).bind fun q7 =>
(rk_dr S 0 5 q7).bind fun o7 =>
(some (R o7 3)).bind fun q8 =>
(q8).bind fun o8 =>
(rk_rdD S I o8 1).bind fun x7 =>
(f_X5_laterOf x7 (I a0 6)).bind fun x8 =>
(f_X5_laterOf x6 x8).bind fun x9 =>
some x9) else
if (I a0 0) = 5 then (
(f_X5_laterOf (I a0 7) (I a0 6)).bind fun x10 =>
some x10) else
some (I a0 6)
theorem b_X5_thingHour {G : rk_G} {l : Launch} {d kc ks : Nat} {n : Nat} {S : rk_Sh} {I : rk_I} {J : rk_J} {R : rk_R} {Q : rk_Q} {a0 : Nat} {r : Int32} (hd : 2 ≤ d) (hS_a0 : S a0 = (5, 11)) (hf : f_X5_thingHour S I R a0 = some r) (hq : ∀ (v9 : Int32), r = v9 → Q (some (.int v9)) n S I J R) :
    AW G l yX5_thingHour cX5_thingHour 1 (some .int) d kc ks 0 [some (.ref a0)] [] n S I J R Q := by
  unfold f_X5_thingHour at hf
  refine AW_aload_n0 dX5_thingHour_0 ?_
  refine AW_getI dX5_thingHour_1 kf_X5_18 rfl hS_a0 (by decide) ?_
  by_cases h1 : (I a0 0) = 1
  · replace hf := rk_it hf h1
    refine AW_tableIn 40 dX5_thingHour_4 (by rw [h1]; decide) (by rw [h1]; decide) (by rw [h1]; rfl) (by decide) ?_
    refine AW_aload_n0 dX5_thingHour_40 ?_
    replace hf := rk_bd hf
    obtain ⟨q1, e1, hf⟩ := hf
    refine AW_getQ dX5_thingHour_41 kf_X5_21 rfl hS_a0 (by decide) e1 ?_
    replace hf := rk_bd hf
    obtain ⟨o1, e2, hf⟩ := hf
    obtain ⟨e2, hS1⟩ := rk_dr_sp e2
    subst e2
    replace hf := rk_bd hf
    obtain ⟨q2, e3, hf⟩ := hf
    refine AW_getQ dX5_thingHour_44 kf_X5_47 rfl hS1 (by decide) e3 ?_
    refine AW_iconst (v := 0) dX5_thingHour_47 (by decide) ?_
    replace hf := rk_bd hf
    obtain ⟨o2, e4, hf⟩ := hf
    subst e4
    replace hf := rk_bd hf
    obtain ⟨x1, e5, hf⟩ := hf
    refine AW_rdD dX5_thingHour_48 e5 ?_
    refine AW_aload_n0 dX5_thingHour_49 ?_
    refine AW_getI dX5_thingHour_50 kf_X5_37 rfl hS_a0 (by decide) ?_
    replace hf := rk_bd hf
    obtain ⟨x2, e6, hf⟩ := hf
    refine AW_iS2iz (w_X5_laterOf (d := 1) (Nat.le_refl _) e6) dX5_thingHour_53 kl_X5_53 (Nat.le_trans (by decide) hd) (by decide) (Nat.le_of_ble_eq_true rfl) (fun _ => ?_)
    exact AW_iret dX5_thingHour_56 rfl (hq _ (Option.some.inj hf).symm)
  replace hf := rk_if hf h1
  by_cases h2 : (I a0 0) = 2
  · replace hf := rk_it hf h2
    refine AW_tableIn 57 dX5_thingHour_4 (by rw [h2]; decide) (by rw [h2]; decide) (by rw [h2]; rfl) (by decide) ?_
    refine AW_aload_n0 dX5_thingHour_57 ?_
    replace hf := rk_bd hf
    obtain ⟨q3, e7, hf⟩ := hf
    refine AW_getQ dX5_thingHour_58 kf_X5_21 rfl hS_a0 (by decide) e7 ?_
    replace hf := rk_bd hf
    obtain ⟨o3, e8, hf⟩ := hf
    obtain ⟨e8, hS2⟩ := rk_dr_sp e8
    subst e8
    replace hf := rk_bd hf
    obtain ⟨q4, e9, hf⟩ := hf
    refine AW_getQ dX5_thingHour_61 kf_X5_47 rfl hS2 (by decide) e9 ?_
    refine AW_iconst (v := 1) dX5_thingHour_64 (by decide) ?_
    replace hf := rk_bd hf
    obtain ⟨o4, e10, hf⟩ := hf
    subst e10
    replace hf := rk_bd hf
    obtain ⟨x3, e11, hf⟩ := hf
    refine AW_rdD dX5_thingHour_65 e11 ?_
    refine AW_aload_n0 dX5_thingHour_66 ?_
    refine AW_getI dX5_thingHour_67 kf_X5_37 rfl hS_a0 (by decide) ?_
    replace hf := rk_bd hf
    obtain ⟨x4, e12, hf⟩ := hf
    refine AW_iS2iz (w_X5_laterOf (d := 1) (Nat.le_refl _) e12) dX5_thingHour_70 kl_X5_53 (Nat.le_trans (by decide) hd) (by decide) (Nat.le_of_ble_eq_true rfl) (fun _ => ?_)
    exact AW_iret dX5_thingHour_73 rfl (hq _ (Option.some.inj hf).symm)
  replace hf := rk_if hf h2
  by_cases h3 : (I a0 0) = 3
  · replace hf := rk_it hf h3
    refine AW_tableIn 103 dX5_thingHour_4 (by rw [h3]; decide) (by rw [h3]; decide) (by rw [h3]; rfl) (by decide) ?_
    refine AW_aload_n0 dX5_thingHour_103 ?_
    refine AW_getI dX5_thingHour_104 kf_X5_9 rfl hS_a0 (by decide) ?_
    refine AW_aload_n0 dX5_thingHour_107 ?_
    refine AW_getI dX5_thingHour_108 kf_X5_37 rfl hS_a0 (by decide) ?_
    replace hf := rk_bd hf
    obtain ⟨x5, e13, hf⟩ := hf
    refine AW_iS2iz (w_X5_laterOf (d := 1) (Nat.le_refl _) e13) dX5_thingHour_111 kl_X5_53 (Nat.le_trans (by decide) hd) (by decide) (Nat.le_of_ble_eq_true rfl) (fun _ => ?_)
    exact AW_iret dX5_thingHour_114 rfl (hq _ (Option.some.inj hf).symm)
  replace hf := rk_if hf h3
  by_cases h4 : (I a0 0) = 4
  · replace hf := rk_it hf h4
    refine AW_tableIn 74 dX5_thingHour_4 (by rw [h4]; decide) (by rw [h4]; decide) (by rw [h4]; rfl) (by decide) ?_
    refine AW_aload_n0 dX5_thingHour_74 ?_
    replace hf := rk_bd hf
    obtain ⟨q5, e14, hf⟩ := hf
    refine AW_getQ dX5_thingHour_75 kf_X5_21 rfl hS_a0 (by decide) e14 ?_
    replace hf := rk_bd hf
    obtain ⟨o5, e15, hf⟩ := hf
    obtain ⟨e15, hS3⟩ := rk_dr_sp e15
    subst e15
    replace hf := rk_bd hf
    obtain ⟨q6, e16, hf⟩ := hf
    refine AW_getQ dX5_thingHour_78 kf_X5_47 rfl hS3 (by decide) e16 ?_
    refine AW_iconst (v := 2) dX5_thingHour_81 (by decide) ?_
    replace hf := rk_bd hf
    obtain ⟨o6, e17, hf⟩ := hf
    subst e17
    replace hf := rk_bd hf
    obtain ⟨x6, e18, hf⟩ := hf
    refine AW_rdD dX5_thingHour_82 e18 ?_
    refine AW_aload_n0 dX5_thingHour_83 ?_
    replace hf := rk_bd hf
    obtain ⟨q7, e19, hf⟩ := hf
    refine AW_getQ dX5_thingHour_84 kf_X5_21 rfl hS_a0 (by decide) e19 ?_
    replace hf := rk_bd hf
    obtain ⟨o7, e20, hf⟩ := hf
    obtain ⟨e20, hS4⟩ := rk_dr_sp e20
    subst e20
    replace hf := rk_bd hf
    obtain ⟨q8, e21, hf⟩ := hf
    refine AW_getQ dX5_thingHour_87 kf_X5_47 rfl hS4 (by decide) e21 ?_
    refine AW_iconst (v := 1) dX5_thingHour_90 (by decide) ?_
    replace hf := rk_bd hf
    obtain ⟨o8, e22, hf⟩ := hf
    subst e22
    replace hf := rk_bd hf
    obtain ⟨x7, e23, hf⟩ := hf
    refine AW_rdD dX5_thingHour_91 e23 ?_
    refine AW_aload_n0 dX5_thingHour_92 ?_
    refine AW_getI dX5_thingHour_93 kf_X5_37 rfl hS_a0 (by decide) ?_
    replace hf := rk_bd hf
    obtain ⟨x8, e24, hf⟩ := hf
    refine AW_iS2iz (w_X5_laterOf (d := 1) (Nat.le_refl _) e24) dX5_thingHour_96 kl_X5_53 (Nat.le_trans (by decide) hd) (by decide) (Nat.le_of_ble_eq_true rfl) (fun _ => ?_)
    replace hf := rk_bd hf
    obtain ⟨x9, e25, hf⟩ := hf
    refine AW_iS2iz (w_X5_laterOf (d := 1) (Nat.le_refl _) e25) dX5_thingHour_99 kl_X5_53 (Nat.le_trans (by decide) hd) (by decide) (Nat.le_of_ble_eq_true rfl) (fun _ => ?_)
    exact AW_iret dX5_thingHour_102 rfl (hq _ (Option.some.inj hf).symm)
  replace hf := rk_if hf h4
  by_cases h5 : (I a0 0) = 5
  · replace hf := rk_it hf h5
    refine AW_tableIn 103 dX5_thingHour_4 (by rw [h5]; decide) (by rw [h5]; decide) (by rw [h5]; rfl) (by decide) ?_
    refine AW_aload_n0 dX5_thingHour_103 ?_
    refine AW_getI dX5_thingHour_104 kf_X5_9 rfl hS_a0 (by decide) ?_
    refine AW_aload_n0 dX5_thingHour_107 ?_
    refine AW_getI dX5_thingHour_108 kf_X5_37 rfl hS_a0 (by decide) ?_
    replace hf := rk_bd hf
    obtain ⟨x10, e26, hf⟩ := hf
    refine AW_iS2iz (w_X5_laterOf (d := 1) (Nat.le_refl _) e26) dX5_thingHour_111 kl_X5_53 (Nat.le_trans (by decide) hd) (by decide) (Nat.le_of_ble_eq_true rfl) (fun _ => ?_)
    exact AW_iret dX5_thingHour_114 rfl (hq _ (Option.some.inj hf).symm)
  replace hf := rk_if hf h5
  refine AW_tableOut 115 dX5_thingHour_4 (by
    have g_h1 : ¬ ((I a0 0)).toInt = 1 := fun z => h1 (Int32.toInt_inj.mp z)
    have g_h2 : ¬ ((I a0 0)).toInt = 2 := fun z => h2 (Int32.toInt_inj.mp z)
    have g_h3 : ¬ ((I a0 0)).toInt = 3 := fun z => h3 (Int32.toInt_inj.mp z)
    have g_h4 : ¬ ((I a0 0)).toInt = 4 := fun z => h4 (Int32.toInt_inj.mp z)
    have g_h5 : ¬ ((I a0 0)).toInt = 5 := fun z => h5 (Int32.toInt_inj.mp z)
    omega) (by decide) ?_
  refine AW_aload_n0 dX5_thingHour_115 ?_
  refine AW_getI dX5_thingHour_116 kf_X5_37 rfl hS_a0 (by decide) ?_
  exact AW_iret dX5_thingHour_119 rfl (hq _ (Option.some.inj hf).symm)
theorem w_X5_thingHour {G : rk_G} {l : Launch} {d : Nat} {n : Nat} {S : rk_Sh} {I : rk_I} {J : rk_J} {R : rk_R} {a0 : Nat} {v8 : Int32} (hd : 2 ≤ d) (hS_a0 : S a0 = (5, 11)) (hf : f_X5_thingHour S I R a0 = some v8) :
    CW G l yX5_thingHour cX5_thingHour 1 (some .int) d 0 0 [.ref a0] n S I J R (rk_qi v8 n S I J R True) :=
  CW.of (by decide +kernel) (Nat.le_of_ble_eq_true rfl) (rk_sbs rk_sb0) (b_X5_thingHour hd hS_a0 hf (fun v9 h9 => by cases h9; exact ⟨rfl, rfl, rfl, rfl, rfl, rfl, trivial⟩))
noncomputable def f_X5_halfWayTo (I : rk_I) (a0 : Nat) (a1 : Int32) : Option (Int32) :=
if a1 = 1000 then (
some 1000) else (
some ((I a0 6) + ((a1 - (I a0 6)) / 2)))
theorem b_X5_halfWayTo {G : rk_G} {l : Launch} {d kc ks : Nat} {n : Nat} {S : rk_Sh} {I : rk_I} {J : rk_J} {R : rk_R} {Q : rk_Q} {a0 : Nat} {a1 : Int32} {r : Int32} (hS_a0 : S a0 = (5, 11)) (hf : f_X5_halfWayTo I a0 a1 = some r) (hq : ∀ (v9 : Int32), r = v9 → Q (some (.int v9)) n S I J R) :
    AW G l yX5_halfWayTo cX5_halfWayTo 2 (some .int) d kc ks 0 [some (.ref a0), some (.int a1)] [] n S I J R Q := by
  unfold f_X5_halfWayTo at hf
  refine AW_iload_n1 dX5_halfWayTo_0 ?_
  refine AW_sipush (v := 1000) dX5_halfWayTo_1 (by decide) ?_
  refine AW_icmp_ne 13 dX5_halfWayTo_4 (by decide) (fun h1 => ?_) (fun h1 => ?_)
  · replace hf := rk_if hf h1
    refine AW_aload_n0 dX5_halfWayTo_13 ?_
    refine AW_getI dX5_halfWayTo_14 kf_X5_37 rfl hS_a0 (by decide) ?_
    refine AW_iload_n1 dX5_halfWayTo_17 ?_
    refine AW_aload_n0 dX5_halfWayTo_18 ?_
    refine AW_getI dX5_halfWayTo_19 kf_X5_37 rfl hS_a0 (by decide) ?_
    refine AW_isub dX5_halfWayTo_22 ?_
    refine AW_iconst (v := 2) dX5_halfWayTo_23 (by decide) ?_
    refine AW_idiv dX5_halfWayTo_24 (by decide) ?_
    refine AW_iadd dX5_halfWayTo_25 ?_
    exact AW_iret dX5_halfWayTo_26 rfl (hq _ (Option.some.inj hf).symm)
  · replace hf := rk_it hf h1
    refine AW_sipush (v := 1000) dX5_halfWayTo_7 (by decide) ?_
    refine AW_goto 26 dX5_halfWayTo_10 (by decide) ?_
    exact AW_iret dX5_halfWayTo_26 rfl (hq _ (Option.some.inj hf).symm)
theorem w_X5_halfWayTo {G : rk_G} {l : Launch} {d : Nat} {n : Nat} {S : rk_Sh} {I : rk_I} {J : rk_J} {R : rk_R} {a0 : Nat} {a1 : Int32} {v8 : Int32} (hS_a0 : S a0 = (5, 11)) (hf : f_X5_halfWayTo I a0 a1 = some v8) :
    CW G l yX5_halfWayTo cX5_halfWayTo 2 (some .int) d 0 0 [.ref a0, .int a1] n S I J R (rk_qi v8 n S I J R True) :=
  CW.of (by decide +kernel) (Nat.le_of_ble_eq_true rfl) (rk_sbs (rk_sbs rk_sb0)) (b_X5_halfWayTo hS_a0 hf (fun v9 h9 => by cases h9; exact ⟨rfl, rfl, rfl, rfl, rfl, rfl, trivial⟩))
noncomputable def f_X5_lossHour (S : rk_Sh) (I : rk_I) (R : rk_R) (a0 : Nat) : Option (Int32) :=
if (I a0 0) = 1 then (
(some (R a0 1)).bind fun q1 =>
(rk_dr S 0 5 q1).bind fun o1 =>
(some (R o1 3)).bind fun q2 =>
(q2).bind fun o2 =>
(rk_rdD S I o2 0).bind fun x1 =>
(f_X5_laterOf x1 (I a0 6)).bind fun x2 =>
some x2) else
if (I a0 0) = 2 then (
(some (R a0 1)).bind fun q3 =>
(rk_dr S 0 5 q3).bind fun o3 =>
(some (R o3 3)).bind fun q4 =>
(q4).bind fun o4 =>
(rk_rdD S I o4 1).bind fun x3 =>
(f_X5_laterOf x3 (I a0 6)).bind fun x4 =>
some x4) else
if (I a0 0) = 3 then (
(some (R a0 1)).bind fun q5 =>
(rk_dr S 0 5 q5).bind fun o5 =>
(some (R o5 3)).bind fun q6 =>
(q6).bind fun o6 =>
(rk_rdD S I o6 0).bind fun x5 =>
(f_X5_laterOf x5 (I a0 6)).bind fun x6 =>
some x6) else
if (I a0 0) = 4 then (
(some (R a0 1)).bind fun q7 =>
(rk_dr S 0 5 q7).bind fun o7 =>
(some (R o7 3)).bind fun q8 =>
(q8).bind fun o8 =>
(rk_rdD S I o8 1).bind fun x7 =>
(f_X5_laterOf x7 (I a0 6)).bind fun x8 =>
some x8) else
if (I a0 0) = 5 then (
(some (R a0 1)).bind fun q9 =>
(rk_dr S 0 5 q9).bind fun o9 =>
(some (R o9 3)).bind fun q10 =>
(q10).bind fun o10 =>
(rk_rdD S I o10 0).bind fun x9 =>
(f_X5_laterOf x9 (I a0 6)).bind fun x10 =>
(f_X5_halfWayTo I a0 x10).bind fun x11 =>
some x11) else
some (I a0 6)
theorem b_X5_lossHour {G : rk_G} {l : Launch} {d kc ks : Nat} {n : Nat} {S : rk_Sh} {I : rk_I} {J : rk_J} {R : rk_R} {Q : rk_Q} {a0 : Nat} {r : Int32} (hd : 2 ≤ d) (hS_a0 : S a0 = (5, 11)) (hf : f_X5_lossHour S I R a0 = some r) (hq : ∀ (v9 : Int32), r = v9 → Q (some (.int v9)) n S I J R) :
    AW G l yX5_lossHour cX5_lossHour 1 (some .int) d kc ks 0 [some (.ref a0)] [] n S I J R Q := by
  unfold f_X5_lossHour at hf
  refine AW_aload_n0 dX5_lossHour_0 ?_
  refine AW_getI dX5_lossHour_1 kf_X5_18 rfl hS_a0 (by decide) ?_
  by_cases h1 : (I a0 0) = 1
  · replace hf := rk_it hf h1
    refine AW_tableIn 40 dX5_lossHour_4 (by rw [h1]; decide) (by rw [h1]; decide) (by rw [h1]; rfl) (by decide) ?_
    refine AW_aload_n0 dX5_lossHour_40 ?_
    replace hf := rk_bd hf
    obtain ⟨q1, e1, hf⟩ := hf
    refine AW_getQ dX5_lossHour_41 kf_X5_21 rfl hS_a0 (by decide) e1 ?_
    replace hf := rk_bd hf
    obtain ⟨o1, e2, hf⟩ := hf
    obtain ⟨e2, hS1⟩ := rk_dr_sp e2
    subst e2
    replace hf := rk_bd hf
    obtain ⟨q2, e3, hf⟩ := hf
    refine AW_getQ dX5_lossHour_44 kf_X5_47 rfl hS1 (by decide) e3 ?_
    refine AW_iconst (v := 0) dX5_lossHour_47 (by decide) ?_
    replace hf := rk_bd hf
    obtain ⟨o2, e4, hf⟩ := hf
    subst e4
    replace hf := rk_bd hf
    obtain ⟨x1, e5, hf⟩ := hf
    refine AW_rdD dX5_lossHour_48 e5 ?_
    refine AW_aload_n0 dX5_lossHour_49 ?_
    refine AW_getI dX5_lossHour_50 kf_X5_37 rfl hS_a0 (by decide) ?_
    replace hf := rk_bd hf
    obtain ⟨x2, e6, hf⟩ := hf
    refine AW_iS2iz (w_X5_laterOf (d := 1) (Nat.le_refl _) e6) dX5_lossHour_53 kl_X5_53 (Nat.le_trans (by decide) hd) (by decide) (Nat.le_of_ble_eq_true rfl) (fun _ => ?_)
    exact AW_iret dX5_lossHour_56 rfl (hq _ (Option.some.inj hf).symm)
  replace hf := rk_if hf h1
  by_cases h2 : (I a0 0) = 2
  · replace hf := rk_it hf h2
    refine AW_tableIn 57 dX5_lossHour_4 (by rw [h2]; decide) (by rw [h2]; decide) (by rw [h2]; rfl) (by decide) ?_
    refine AW_aload_n0 dX5_lossHour_57 ?_
    replace hf := rk_bd hf
    obtain ⟨q3, e7, hf⟩ := hf
    refine AW_getQ dX5_lossHour_58 kf_X5_21 rfl hS_a0 (by decide) e7 ?_
    replace hf := rk_bd hf
    obtain ⟨o3, e8, hf⟩ := hf
    obtain ⟨e8, hS2⟩ := rk_dr_sp e8
    subst e8
    replace hf := rk_bd hf
    obtain ⟨q4, e9, hf⟩ := hf
    refine AW_getQ dX5_lossHour_61 kf_X5_47 rfl hS2 (by decide) e9 ?_
    refine AW_iconst (v := 1) dX5_lossHour_64 (by decide) ?_
    replace hf := rk_bd hf
    obtain ⟨o4, e10, hf⟩ := hf
    subst e10
    replace hf := rk_bd hf
    obtain ⟨x3, e11, hf⟩ := hf
    refine AW_rdD dX5_lossHour_65 e11 ?_
    refine AW_aload_n0 dX5_lossHour_66 ?_
    refine AW_getI dX5_lossHour_67 kf_X5_37 rfl hS_a0 (by decide) ?_
    replace hf := rk_bd hf
    obtain ⟨x4, e12, hf⟩ := hf
    refine AW_iS2iz (w_X5_laterOf (d := 1) (Nat.le_refl _) e12) dX5_lossHour_70 kl_X5_53 (Nat.le_trans (by decide) hd) (by decide) (Nat.le_of_ble_eq_true rfl) (fun _ => ?_)
    exact AW_iret dX5_lossHour_73 rfl (hq _ (Option.some.inj hf).symm)
  replace hf := rk_if hf h2
  by_cases h3 : (I a0 0) = 3
  · replace hf := rk_it hf h3
    refine AW_tableIn 40 dX5_lossHour_4 (by rw [h3]; decide) (by rw [h3]; decide) (by rw [h3]; rfl) (by decide) ?_
    refine AW_aload_n0 dX5_lossHour_40 ?_
    replace hf := rk_bd hf
    obtain ⟨q5, e13, hf⟩ := hf
    refine AW_getQ dX5_lossHour_41 kf_X5_21 rfl hS_a0 (by decide) e13 ?_
    replace hf := rk_bd hf
    obtain ⟨o5, e14, hf⟩ := hf
    obtain ⟨e14, hS3⟩ := rk_dr_sp e14
    subst e14
    replace hf := rk_bd hf
    obtain ⟨q6, e15, hf⟩ := hf
    refine AW_getQ dX5_lossHour_44 kf_X5_47 rfl hS3 (by decide) e15 ?_
    refine AW_iconst (v := 0) dX5_lossHour_47 (by decide) ?_
    replace hf := rk_bd hf
    obtain ⟨o6, e16, hf⟩ := hf
    subst e16
    replace hf := rk_bd hf
    obtain ⟨x5, e17, hf⟩ := hf
    refine AW_rdD dX5_lossHour_48 e17 ?_
    refine AW_aload_n0 dX5_lossHour_49 ?_
    refine AW_getI dX5_lossHour_50 kf_X5_37 rfl hS_a0 (by decide) ?_
    replace hf := rk_bd hf
    obtain ⟨x6, e18, hf⟩ := hf
    refine AW_iS2iz (w_X5_laterOf (d := 1) (Nat.le_refl _) e18) dX5_lossHour_53 kl_X5_53 (Nat.le_trans (by decide) hd) (by decide) (Nat.le_of_ble_eq_true rfl) (fun _ => ?_)
    exact AW_iret dX5_lossHour_56 rfl (hq _ (Option.some.inj hf).symm)
  replace hf := rk_if hf h3
  by_cases h4 : (I a0 0) = 4
  · replace hf := rk_it hf h4
    refine AW_tableIn 57 dX5_lossHour_4 (by rw [h4]; decide) (by rw [h4]; decide) (by rw [h4]; rfl) (by decide) ?_
    refine AW_aload_n0 dX5_lossHour_57 ?_
    replace hf := rk_bd hf
    obtain ⟨q7, e19, hf⟩ := hf
    refine AW_getQ dX5_lossHour_58 kf_X5_21 rfl hS_a0 (by decide) e19 ?_
    replace hf := rk_bd hf
    obtain ⟨o7, e20, hf⟩ := hf
    obtain ⟨e20, hS4⟩ := rk_dr_sp e20
    subst e20
    replace hf := rk_bd hf
    obtain ⟨q8, e21, hf⟩ := hf
    refine AW_getQ dX5_lossHour_61 kf_X5_47 rfl hS4 (by decide) e21 ?_
    refine AW_iconst (v := 1) dX5_lossHour_64 (by decide) ?_
    replace hf := rk_bd hf
    obtain ⟨o8, e22, hf⟩ := hf
    subst e22
    replace hf := rk_bd hf
    obtain ⟨x7, e23, hf⟩ := hf
    refine AW_rdD dX5_lossHour_65 e23 ?_
    refine AW_aload_n0 dX5_lossHour_66 ?_
    refine AW_getI dX5_lossHour_67 kf_X5_37 rfl hS_a0 (by decide) ?_
    replace hf := rk_bd hf
    obtain ⟨x8, e24, hf⟩ := hf
    refine AW_iS2iz (w_X5_laterOf (d := 1) (Nat.le_refl _) e24) dX5_lossHour_70 kl_X5_53 (Nat.le_trans (by decide) hd) (by decide) (Nat.le_of_ble_eq_true rfl) (fun _ => ?_)
    exact AW_iret dX5_lossHour_73 rfl (hq _ (Option.some.inj hf).symm)
  replace hf := rk_if hf h4
  by_cases h5 : (I a0 0) = 5
  · replace hf := rk_it hf h5
    refine AW_tableIn 74 dX5_lossHour_4 (by rw [h5]; decide) (by rw [h5]; decide) (by rw [h5]; rfl) (by decide) ?_
    refine AW_aload_n0 dX5_lossHour_74 ?_
    refine AW_aload_n0 dX5_lossHour_75 ?_
    replace hf := rk_bd hf
    obtain ⟨q9, e25, hf⟩ := hf
    refine AW_getQ dX5_lossHour_76 kf_X5_21 rfl hS_a0 (by decide) e25 ?_
    replace hf := rk_bd hf
    obtain ⟨o9, e26, hf⟩ := hf
    obtain ⟨e26, hS5⟩ := rk_dr_sp e26
    subst e26
    replace hf := rk_bd hf
    obtain ⟨q10, e27, hf⟩ := hf
    refine AW_getQ dX5_lossHour_79 kf_X5_47 rfl hS5 (by decide) e27 ?_
    refine AW_iconst (v := 0) dX5_lossHour_82 (by decide) ?_
    replace hf := rk_bd hf
    obtain ⟨o10, e28, hf⟩ := hf
    subst e28
    replace hf := rk_bd hf
    obtain ⟨x9, e29, hf⟩ := hf
    refine AW_rdD dX5_lossHour_83 e29 ?_
    refine AW_aload_n0 dX5_lossHour_84 ?_
    refine AW_getI dX5_lossHour_85 kf_X5_37 rfl hS_a0 (by decide) ?_
    replace hf := rk_bd hf
    obtain ⟨x10, e30, hf⟩ := hf
    refine AW_iS2iz (w_X5_laterOf (d := 1) (Nat.le_refl _) e30) dX5_lossHour_88 kl_X5_53 (Nat.le_trans (by decide) hd) (by decide) (Nat.le_of_ble_eq_true rfl) (fun _ => ?_)
    replace hf := rk_bd hf
    obtain ⟨x11, e31, hf⟩ := hf
    refine AW_iV1iz (w_X5_halfWayTo (d := 0) hS_a0 e31) dX5_lossHour_91 kl_X5_57 hS_a0 rfl (Nat.le_trans (by decide) hd) (by decide) (Nat.le_of_ble_eq_true rfl) (fun _ => ?_)
    exact AW_iret dX5_lossHour_94 rfl (hq _ (Option.some.inj hf).symm)
  replace hf := rk_if hf h5
  refine AW_tableOut 95 dX5_lossHour_4 (by
    have g_h1 : ¬ ((I a0 0)).toInt = 1 := fun z => h1 (Int32.toInt_inj.mp z)
    have g_h2 : ¬ ((I a0 0)).toInt = 2 := fun z => h2 (Int32.toInt_inj.mp z)
    have g_h3 : ¬ ((I a0 0)).toInt = 3 := fun z => h3 (Int32.toInt_inj.mp z)
    have g_h4 : ¬ ((I a0 0)).toInt = 4 := fun z => h4 (Int32.toInt_inj.mp z)
    have g_h5 : ¬ ((I a0 0)).toInt = 5 := fun z => h5 (Int32.toInt_inj.mp z)
    omega) (by decide) ?_
  refine AW_aload_n0 dX5_lossHour_95 ?_
  refine AW_getI dX5_lossHour_96 kf_X5_37 rfl hS_a0 (by decide) ?_
  exact AW_iret dX5_lossHour_99 rfl (hq _ (Option.some.inj hf).symm)
theorem w_X5_lossHour {G : rk_G} {l : Launch} {d : Nat} {n : Nat} {S : rk_Sh} {I : rk_I} {J : rk_J} {R : rk_R} {a0 : Nat} {v8 : Int32} (hd : 2 ≤ d) (hS_a0 : S a0 = (5, 11)) (hf : f_X5_lossHour S I R a0 = some v8) :
    CW G l yX5_lossHour cX5_lossHour 1 (some .int) d 0 0 [.ref a0] n S I J R (rk_qi v8 n S I J R True) :=
  CW.of (by decide +kernel) (Nat.le_of_ble_eq_true rfl) (rk_sbs rk_sb0) (b_X5_lossHour hd hS_a0 hf (fun v9 h9 => by cases h9; exact ⟨rfl, rfl, rfl, rfl, rfl, rfl, trivial⟩))
noncomputable def f_X5_tell (S : rk_Sh) (I : rk_I) (R : rk_R) (a0 : Nat) (a1 : Int32) : Option (Int32) :=
if a1 = 0 then (
some (I a0 0)) else
if a1 = 1 then (
(some (R a0 1)).bind fun q1 =>
(rk_dr S 0 5 q1).bind fun o1 =>
some (I o1 0)) else
if a1 = 2 then (
some (I a0 2)) else
if a1 = 3 then (
some (I a0 3)) else
if a1 = 4 then (
some (I a0 4)) else
if a1 = 5 then (
some (I a0 5)) else
if a1 = 6 then (
some (I a0 6)) else
if a1 = 7 then (
some (I a0 7)) else
if a1 = 8 then (
some (I a0 8)) else
if a1 = 9 then (
(f_X5_thingHour S I R a0).bind fun x1 =>
some x1) else
if a1 = 10 then (
(f_X5_lossHour S I R a0).bind fun x2 =>
some x2) else
some (-5)
theorem b_X5_tell {G : rk_G} {l : Launch} {d kc ks : Nat} {n : Nat} {S : rk_Sh} {I : rk_I} {J : rk_J} {R : rk_R} {Q : rk_Q} {a0 : Nat} {a1 : Int32} {r : Int32} (hd : 3 ≤ d) (hS_a0 : S a0 = (5, 11)) (hf : f_X5_tell S I R a0 a1 = some r) (hq : ∀ (v9 : Int32), r = v9 → Q (some (.int v9)) n S I J R) :
    AW G l yX5_tell cX5_tell 2 (some .int) d kc ks 0 [some (.ref a0), some (.int a1)] [] n S I J R Q := by
  unfold f_X5_tell at hf
  refine AW_iload_n1 dX5_tell_0 ?_
  by_cases h1 : a1 = 0
  · replace hf := rk_it hf h1
    refine AW_tableIn 60 dX5_tell_1 (by rw [h1]; decide) (by rw [h1]; decide) (by rw [h1]; rfl) (by decide) ?_
    refine AW_aload_n0 dX5_tell_60 ?_
    refine AW_getI dX5_tell_61 kf_X5_18 rfl hS_a0 (by decide) ?_
    exact AW_iret dX5_tell_64 rfl (hq _ (Option.some.inj hf).symm)
  replace hf := rk_if hf h1
  by_cases h2 : a1 = 1
  · replace hf := rk_it hf h2
    refine AW_tableIn 65 dX5_tell_1 (by rw [h2]; decide) (by rw [h2]; decide) (by rw [h2]; rfl) (by decide) ?_
    refine AW_aload_n0 dX5_tell_65 ?_
    replace hf := rk_bd hf
    obtain ⟨q1, e1, hf⟩ := hf
    refine AW_getQ dX5_tell_66 kf_X5_21 rfl hS_a0 (by decide) e1 ?_
    replace hf := rk_bd hf
    obtain ⟨o1, e2, hf⟩ := hf
    obtain ⟨e2, hS1⟩ := rk_dr_sp e2
    subst e2
    refine AW_getI dX5_tell_69 kf_X5_66 rfl hS1 (by decide) ?_
    exact AW_iret dX5_tell_72 rfl (hq _ (Option.some.inj hf).symm)
  replace hf := rk_if hf h2
  by_cases h3 : a1 = 2
  · replace hf := rk_it hf h3
    refine AW_tableIn 73 dX5_tell_1 (by rw [h3]; decide) (by rw [h3]; decide) (by rw [h3]; rfl) (by decide) ?_
    refine AW_aload_n0 dX5_tell_73 ?_
    refine AW_getI dX5_tell_74 kf_X5_25 rfl hS_a0 (by decide) ?_
    exact AW_iret dX5_tell_77 rfl (hq _ (Option.some.inj hf).symm)
  replace hf := rk_if hf h3
  by_cases h4 : a1 = 3
  · replace hf := rk_it hf h4
    refine AW_tableIn 78 dX5_tell_1 (by rw [h4]; decide) (by rw [h4]; decide) (by rw [h4]; rfl) (by decide) ?_
    refine AW_aload_n0 dX5_tell_78 ?_
    refine AW_getI dX5_tell_79 kf_X5_28 rfl hS_a0 (by decide) ?_
    exact AW_iret dX5_tell_82 rfl (hq _ (Option.some.inj hf).symm)
  replace hf := rk_if hf h4
  by_cases h5 : a1 = 4
  · replace hf := rk_it hf h5
    refine AW_tableIn 83 dX5_tell_1 (by rw [h5]; decide) (by rw [h5]; decide) (by rw [h5]; rfl) (by decide) ?_
    refine AW_aload_n0 dX5_tell_83 ?_
    refine AW_getI dX5_tell_84 kf_X5_31 rfl hS_a0 (by decide) ?_
    exact AW_iret dX5_tell_87 rfl (hq _ (Option.some.inj hf).symm)
  replace hf := rk_if hf h5
  by_cases h6 : a1 = 5
  · replace hf := rk_it hf h6
    refine AW_tableIn 88 dX5_tell_1 (by rw [h6]; decide) (by rw [h6]; decide) (by rw [h6]; rfl) (by decide) ?_
    refine AW_aload_n0 dX5_tell_88 ?_
    refine AW_getI dX5_tell_89 kf_X5_34 rfl hS_a0 (by decide) ?_
    exact AW_iret dX5_tell_92 rfl (hq _ (Option.some.inj hf).symm)
  replace hf := rk_if hf h6
  by_cases h7 : a1 = 6
  · replace hf := rk_it hf h7
    refine AW_tableIn 93 dX5_tell_1 (by rw [h7]; decide) (by rw [h7]; decide) (by rw [h7]; rfl) (by decide) ?_
    refine AW_aload_n0 dX5_tell_93 ?_
    refine AW_getI dX5_tell_94 kf_X5_37 rfl hS_a0 (by decide) ?_
    exact AW_iret dX5_tell_97 rfl (hq _ (Option.some.inj hf).symm)
  replace hf := rk_if hf h7
  by_cases h8 : a1 = 7
  · replace hf := rk_it hf h8
    refine AW_tableIn 98 dX5_tell_1 (by rw [h8]; decide) (by rw [h8]; decide) (by rw [h8]; rfl) (by decide) ?_
    refine AW_aload_n0 dX5_tell_98 ?_
    refine AW_getI dX5_tell_99 kf_X5_9 rfl hS_a0 (by decide) ?_
    exact AW_iret dX5_tell_102 rfl (hq _ (Option.some.inj hf).symm)
  replace hf := rk_if hf h8
  by_cases h9 : a1 = 8
  · replace hf := rk_it hf h9
    refine AW_tableIn 103 dX5_tell_1 (by rw [h9]; decide) (by rw [h9]; decide) (by rw [h9]; rfl) (by decide) ?_
    refine AW_aload_n0 dX5_tell_103 ?_
    refine AW_getI dX5_tell_104 kf_X5_69 rfl hS_a0 (by decide) ?_
    exact AW_iret dX5_tell_107 rfl (hq _ (Option.some.inj hf).symm)
  replace hf := rk_if hf h9
  by_cases h10 : a1 = 9
  · replace hf := rk_it hf h10
    refine AW_tableIn 108 dX5_tell_1 (by rw [h10]; decide) (by rw [h10]; decide) (by rw [h10]; rfl) (by decide) ?_
    refine AW_aload_n0 dX5_tell_108 ?_
    replace hf := rk_bd hf
    obtain ⟨x1, e3, hf⟩ := hf
    refine AW_iV0iz (w_X5_thingHour (d := 2) (Nat.le_refl _) hS_a0 e3) dX5_tell_109 kl_X5_40 hS_a0 rfl (Nat.le_trans (by decide) hd) (by decide) (Nat.le_of_ble_eq_true rfl) (fun _ => ?_)
    exact AW_iret dX5_tell_112 rfl (hq _ (Option.some.inj hf).symm)
  replace hf := rk_if hf h10
  by_cases h11 : a1 = 10
  · replace hf := rk_it hf h11
    refine AW_tableIn 113 dX5_tell_1 (by rw [h11]; decide) (by rw [h11]; decide) (by rw [h11]; rfl) (by decide) ?_
    refine AW_aload_n0 dX5_tell_113 ?_
    replace hf := rk_bd hf
    obtain ⟨x2, e4, hf⟩ := hf
    refine AW_iV0iz (w_X5_lossHour (d := 2) (Nat.le_refl _) hS_a0 e4) dX5_tell_114 kl_X5_44 hS_a0 rfl (Nat.le_trans (by decide) hd) (by decide) (Nat.le_of_ble_eq_true rfl) (fun _ => ?_)
    exact AW_iret dX5_tell_117 rfl (hq _ (Option.some.inj hf).symm)
  replace hf := rk_if hf h11
  refine AW_tableOut 118 dX5_tell_1 (by
    have g_h1 : ¬ (a1).toInt = 0 := fun z => h1 (Int32.toInt_inj.mp z)
    have g_h2 : ¬ (a1).toInt = 1 := fun z => h2 (Int32.toInt_inj.mp z)
    have g_h3 : ¬ (a1).toInt = 2 := fun z => h3 (Int32.toInt_inj.mp z)
    have g_h4 : ¬ (a1).toInt = 3 := fun z => h4 (Int32.toInt_inj.mp z)
    have g_h5 : ¬ (a1).toInt = 4 := fun z => h5 (Int32.toInt_inj.mp z)
    have g_h6 : ¬ (a1).toInt = 5 := fun z => h6 (Int32.toInt_inj.mp z)
    have g_h7 : ¬ (a1).toInt = 6 := fun z => h7 (Int32.toInt_inj.mp z)
    have g_h8 : ¬ (a1).toInt = 7 := fun z => h8 (Int32.toInt_inj.mp z)
    have g_h9 : ¬ (a1).toInt = 8 := fun z => h9 (Int32.toInt_inj.mp z)
    have g_h10 : ¬ (a1).toInt = 9 := fun z => h10 (Int32.toInt_inj.mp z)
    have g_h11 : ¬ (a1).toInt = 10 := fun z => h11 (Int32.toInt_inj.mp z)
    omega) (by decide) ?_
  refine AW_bipush (v := (-5)) dX5_tell_118 (by decide) ?_
  exact AW_iret dX5_tell_120 rfl (hq _ (Option.some.inj hf).symm)
theorem w_X5_tell {G : rk_G} {l : Launch} {d : Nat} {n : Nat} {S : rk_Sh} {I : rk_I} {J : rk_J} {R : rk_R} {a0 : Nat} {a1 : Int32} {v8 : Int32} (hd : 3 ≤ d) (hS_a0 : S a0 = (5, 11)) (hf : f_X5_tell S I R a0 a1 = some v8) :
    CW G l yX5_tell cX5_tell 2 (some .int) d 0 0 [.ref a0, .int a1] n S I J R (rk_qi v8 n S I J R True) :=
  CW.of (by decide +kernel) (Nat.le_of_ble_eq_true rfl) (rk_sbs (rk_sbs rk_sb0)) (b_X5_tell hd hS_a0 hf (fun v9 h9 => by cases h9; exact ⟨rfl, rfl, rfl, rfl, rfl, rfl, trivial⟩))
noncomputable def f_X9_told (S : rk_Sh) (I : rk_I) (R : rk_R) (a1 : Int32) (a2 : Int32) : Option (Int32) :=
(f_X9_saleAt I R a1).bind fun q1 =>
rk_oc q1 (
some (-5)) (fun o1 => (
(rk_ck S o1 5 11).bind fun _ =>
(f_X5_tell S I R o1 a2).bind fun x1 =>
some x1))
theorem b_X9_told {G : rk_G} {l : Launch} {d kc ks : Nat} {n : Nat} {S : rk_Sh} {I : rk_I} {J : rk_J} {R : rk_R} {Q : rk_Q} {a1 : Int32} {a2 : Int32} {r : Int32} (hd : 4 ≤ d) (hL : rk_LC S R) (hf : f_X9_told S I R a1 a2 = some r) (hq : ∀ (v9 : Int32), r = v9 → Q (some (.int v9)) n S I J R) :
    AW G l yX9_told cX9_told 4 (some .int) d kc ks 0 [some (.ref 0), some (.int a1), some (.int a2), none] [] n S I J R Q := by
  unfold f_X9_told at hf
  refine AW_aload_n0 dX9_told_0 ?_
  refine AW_iload_n1 dX9_told_1 ?_
  replace hf := rk_bd hf
  obtain ⟨q1, e1, hf⟩ := hf
  refine AW_iV1oz (w_X9_saleAt (d := 0) hL e1) dX9_told_2 kl_X9_131 (hL.1 0 (by decide)) rfl (Nat.le_trans (by decide) hd) (by decide) (Nat.le_of_ble_eq_true rfl) (fun _ => ?_)
  refine AW_astoreO_n3 dX9_told_5 (by decide) rfl ?_
  refine AW_aloadO_n3 dX9_told_6 ?_
  rcases q1 with _ | o1
  · replace hf := rk_oc_n hf
    refine AW_ifnonnullN dX9_told_7 ?_
    refine AW_bipush (v := (-5)) dX9_told_10 (by decide) ?_
    refine AW_goto 20 dX9_told_12 (by decide) ?_
    exact AW_iret dX9_told_20 rfl (hq _ (Option.some.inj hf).symm)
  · replace hf := rk_oc_s hf
    refine AW_ifnonnull 15 dX9_told_7 (by decide) ?_
    refine AW_aload_n3 dX9_told_15 ?_
    refine AW_iload_n2 dX9_told_16 ?_
    replace hf := rk_bd hf
    obtain ⟨_, e2, hf⟩ := hf
    have e2 := rk_ck_sp e2
    replace hf := rk_bd hf
    obtain ⟨x1, e3, hf⟩ := hf
    refine AW_iV1iz (w_X5_tell (d := 3) (Nat.le_refl _) e2 e3) dX9_told_17 kl_X9_145 e2 rfl (Nat.le_trans (by decide) hd) (by decide) (Nat.le_of_ble_eq_true rfl) (fun _ => ?_)
    exact AW_iret dX9_told_20 rfl (hq _ (Option.some.inj hf).symm)
theorem w_X9_told {G : rk_G} {l : Launch} {d : Nat} {n : Nat} {S : rk_Sh} {I : rk_I} {J : rk_J} {R : rk_R} {a1 : Int32} {a2 : Int32} {v8 : Int32} (hd : 4 ≤ d) (hL : rk_LC S R) (hf : f_X9_told S I R a1 a2 = some v8) :
    CW G l yX9_told cX9_told 4 (some .int) d 0 0 [.ref 0, .int a1, .int a2] n S I J R (rk_qi v8 n S I J R True) :=
  CW.of (by decide +kernel) (Nat.le_of_ble_eq_true rfl) (rk_sbs (rk_sbs (rk_sbs (rk_sbe rk_sb0)))) (b_X9_told hd hL hf (fun v9 h9 => by cases h9; exact ⟨rfl, rfl, rfl, rfl, rfl, rfl, trivial⟩))
noncomputable def f_X10_later (a0 : Int32) (a1 : Int32) : Option (Int32) :=
if a0 = (-1) then (
some 1000) else (
if a1 = (-1) then (
some 1000) else (
if a0 ≤ a1 then (
some a1) else (
some a0)))
theorem b_X10_later {G : rk_G} {l : Launch} {d kc ks : Nat} {n : Nat} {S : rk_Sh} {I : rk_I} {J : rk_J} {R : rk_R} {Q : rk_Q} {a0 : Int32} {a1 : Int32} {r : Int32} (hf : f_X10_later a0 a1 = some r) (hq : ∀ (v9 : Int32), r = v9 → Q (some (.int v9)) n S I J R) :
    AW G l yX10_later cX10_later 2 (some .int) d kc ks 0 [some (.int a0), some (.int a1)] [] n S I J R Q := by
  unfold f_X10_later at hf
  refine AW_iload_n0 dX10_later_0 ?_
  refine AW_iconst (v := (-1)) dX10_later_1 (by decide) ?_
  refine AW_icmp_eq 10 dX10_later_2 (by decide) (fun h1 => ?_) (fun h1 => ?_)
  · replace hf := rk_it hf h1
    refine AW_sipush (v := 1000) dX10_later_10 (by decide) ?_
    refine AW_goto 26 dX10_later_13 (by decide) ?_
    exact AW_iret dX10_later_26 rfl (hq _ (Option.some.inj hf).symm)
  · replace hf := rk_if hf h1
    refine AW_iload_n1 dX10_later_5 ?_
    refine AW_iconst (v := (-1)) dX10_later_6 (by decide) ?_
    refine AW_icmp_ne 16 dX10_later_7 (by decide) (fun h2 => ?_) (fun h2 => ?_)
    · replace hf := rk_if hf h2
      refine AW_iload_n0 dX10_later_16 ?_
      refine AW_iload_n1 dX10_later_17 ?_
      refine AW_icmp_le 25 dX10_later_18 (by decide) (fun h3 => ?_) (fun h3 => ?_)
      · replace hf := rk_it hf h3
        refine AW_iload_n1 dX10_later_25 ?_
        exact AW_iret dX10_later_26 rfl (hq _ (Option.some.inj hf).symm)
      · replace hf := rk_if hf h3
        refine AW_iload_n0 dX10_later_21 ?_
        refine AW_goto 26 dX10_later_22 (by decide) ?_
        exact AW_iret dX10_later_26 rfl (hq _ (Option.some.inj hf).symm)
    · replace hf := rk_it hf h2
      refine AW_sipush (v := 1000) dX10_later_10 (by decide) ?_
      refine AW_goto 26 dX10_later_13 (by decide) ?_
      exact AW_iret dX10_later_26 rfl (hq _ (Option.some.inj hf).symm)
theorem w_X10_later {G : rk_G} {l : Launch} {d : Nat} {n : Nat} {S : rk_Sh} {I : rk_I} {J : rk_J} {R : rk_R} {a0 : Int32} {a1 : Int32} {v8 : Int32} (hf : f_X10_later a0 a1 = some v8) :
    CW G l yX10_later cX10_later 2 (some .int) d 0 0 [.int a0, .int a1] n S I J R (rk_qi v8 n S I J R True) :=
  CW.of (by decide +kernel) (Nat.le_of_ble_eq_true rfl) (rk_sbs (rk_sbs rk_sb0)) (b_X10_later hf (fun v9 h9 => by cases h9; exact ⟨rfl, rfl, rfl, rfl, rfl, rfl, trivial⟩))
noncomputable def f_X10_thingBy (I : rk_I) (a1 : Int32) (a2 : Int32) : Option (Int32) :=
(rk_rd I 39 24 a1).bind fun x1 =>
if a2 = 1 then (
(rk_rd I 37 12 (3 * x1)).bind fun x2 =>
(rk_rd I 44 24 a1).bind fun x3 =>
(f_X10_later x2 x3).bind fun x4 =>
some x4) else
if a2 = 2 then (
(rk_rd I 37 12 ((3 * x1) + 1)).bind fun x5 =>
(rk_rd I 44 24 a1).bind fun x6 =>
(f_X10_later x5 x6).bind fun x7 =>
some x7) else
if a2 = 3 then (
(rk_rd I 45 24 a1).bind fun x8 =>
(rk_rd I 44 24 a1).bind fun x9 =>
(f_X10_later x8 x9).bind fun x10 =>
some x10) else
if a2 = 4 then (
(rk_rd I 37 12 ((3 * x1) + 2)).bind fun x11 =>
(rk_rd I 37 12 ((3 * x1) + 1)).bind fun x12 =>
(rk_rd I 44 24 a1).bind fun x13 =>
(f_X10_later x12 x13).bind fun x14 =>
(f_X10_later x11 x14).bind fun x15 =>
some x15) else
if a2 = 5 then (
(rk_rd I 45 24 a1).bind fun x16 =>
(rk_rd I 44 24 a1).bind fun x17 =>
(f_X10_later x16 x17).bind fun x18 =>
some x18) else
(rk_rd I 44 24 a1).bind fun x19 =>
some x19
theorem b_X10_thingBy {G : rk_G} {l : Launch} {d kc ks : Nat} {n : Nat} {S : rk_Sh} {I : rk_I} {J : rk_J} {R : rk_R} {Q : rk_Q} {a1 : Int32} {a2 : Int32} {r : Int32} (hd : 1 ≤ d) (hM : rk_LM S R) (hf : f_X10_thingBy I a1 a2 = some r) (hq : ∀ (v9 : Int32), r = v9 → Q (some (.int v9)) n S I J R) :
    AW G l yX10_thingBy cX10_thingBy 4 (some .int) d kc ks 0 [some (.ref 31), some (.int a1), some (.int a2), none] [] n S I J R Q := by
  unfold f_X10_thingBy at hf
  refine AW_iconst (v := 3) dX10_thingBy_0 (by decide) ?_
  refine AW_aload_n0 dX10_thingBy_1 ?_
  refine AW_getR dX10_thingBy_2 kf_X10_35 rfl (hM.1 31 (by decide) (by decide)) (by decide) (hM.2 31 12 39 rfl) ?_
  refine AW_iload_n1 dX10_thingBy_5 ?_
  replace hf := rk_bd hf
  obtain ⟨x1, e1, hf⟩ := hf
  refine AW_rd dX10_thingBy_6 (hM.1 39 (by decide) (by decide)) e1 ?_
  refine AW_imul dX10_thingBy_7 ?_
  refine AW_istore_n3 dX10_thingBy_8 (by decide) rfl ?_
  refine AW_iload_n2 dX10_thingBy_9 ?_
  by_cases h1 : a2 = 1
  · replace hf := rk_it hf h1
    refine AW_tableIn 44 dX10_thingBy_10 (by rw [h1]; decide) (by rw [h1]; decide) (by rw [h1]; rfl) (by decide) ?_
    refine AW_aload_n0 dX10_thingBy_44 ?_
    refine AW_getR dX10_thingBy_45 kf_X10_29 rfl (hM.1 31 (by decide) (by decide)) (by decide) (hM.2 31 9 37 rfl) ?_
    refine AW_iload_n3 dX10_thingBy_48 ?_
    replace hf := rk_bd hf
    obtain ⟨x2, e2, hf⟩ := hf
    refine AW_rd dX10_thingBy_49 (hM.1 37 (by decide) (by decide)) e2 ?_
    refine AW_aload_n0 dX10_thingBy_50 ?_
    refine AW_getR dX10_thingBy_51 kf_X10_50 rfl (hM.1 31 (by decide) (by decide)) (by decide) (hM.2 31 17 44 rfl) ?_
    refine AW_iload_n1 dX10_thingBy_54 ?_
    replace hf := rk_bd hf
    obtain ⟨x3, e3, hf⟩ := hf
    refine AW_rd dX10_thingBy_55 (hM.1 44 (by decide) (by decide)) e3 ?_
    replace hf := rk_bd hf
    obtain ⟨x4, e4, hf⟩ := hf
    refine AW_iS2iz (w_X10_later (d := 0) e4) dX10_thingBy_56 kl_X10_147 (Nat.le_trans (by decide) hd) (by decide) (Nat.le_of_ble_eq_true rfl) (fun _ => ?_)
    exact AW_iret dX10_thingBy_59 rfl (hq _ (Option.some.inj hf).symm)
  replace hf := rk_if hf h1
  by_cases h2 : a2 = 2
  · replace hf := rk_it hf h2
    refine AW_tableIn 60 dX10_thingBy_10 (by rw [h2]; decide) (by rw [h2]; decide) (by rw [h2]; rfl) (by decide) ?_
    refine AW_aload_n0 dX10_thingBy_60 ?_
    refine AW_getR dX10_thingBy_61 kf_X10_29 rfl (hM.1 31 (by decide) (by decide)) (by decide) (hM.2 31 9 37 rfl) ?_
    refine AW_iload_n3 dX10_thingBy_64 ?_
    refine AW_iconst (v := 1) dX10_thingBy_65 (by decide) ?_
    refine AW_iadd dX10_thingBy_66 ?_
    replace hf := rk_bd hf
    obtain ⟨x5, e5, hf⟩ := hf
    refine AW_rd dX10_thingBy_67 (hM.1 37 (by decide) (by decide)) e5 ?_
    refine AW_aload_n0 dX10_thingBy_68 ?_
    refine AW_getR dX10_thingBy_69 kf_X10_50 rfl (hM.1 31 (by decide) (by decide)) (by decide) (hM.2 31 17 44 rfl) ?_
    refine AW_iload_n1 dX10_thingBy_72 ?_
    replace hf := rk_bd hf
    obtain ⟨x6, e6, hf⟩ := hf
    refine AW_rd dX10_thingBy_73 (hM.1 44 (by decide) (by decide)) e6 ?_
    replace hf := rk_bd hf
    obtain ⟨x7, e7, hf⟩ := hf
    refine AW_iS2iz (w_X10_later (d := 0) e7) dX10_thingBy_74 kl_X10_147 (Nat.le_trans (by decide) hd) (by decide) (Nat.le_of_ble_eq_true rfl) (fun _ => ?_)
    exact AW_iret dX10_thingBy_77 rfl (hq _ (Option.some.inj hf).symm)
  replace hf := rk_if hf h2
  by_cases h3 : a2 = 3
  · replace hf := rk_it hf h3
    refine AW_tableIn 78 dX10_thingBy_10 (by rw [h3]; decide) (by rw [h3]; decide) (by rw [h3]; rfl) (by decide) ?_
    refine AW_aload_n0 dX10_thingBy_78 ?_
    refine AW_getR dX10_thingBy_79 kf_X10_53 rfl (hM.1 31 (by decide) (by decide)) (by decide) (hM.2 31 18 45 rfl) ?_
    refine AW_iload_n1 dX10_thingBy_82 ?_
    replace hf := rk_bd hf
    obtain ⟨x8, e8, hf⟩ := hf
    refine AW_rd dX10_thingBy_83 (hM.1 45 (by decide) (by decide)) e8 ?_
    refine AW_aload_n0 dX10_thingBy_84 ?_
    refine AW_getR dX10_thingBy_85 kf_X10_50 rfl (hM.1 31 (by decide) (by decide)) (by decide) (hM.2 31 17 44 rfl) ?_
    refine AW_iload_n1 dX10_thingBy_88 ?_
    replace hf := rk_bd hf
    obtain ⟨x9, e9, hf⟩ := hf
    refine AW_rd dX10_thingBy_89 (hM.1 44 (by decide) (by decide)) e9 ?_
    replace hf := rk_bd hf
    obtain ⟨x10, e10, hf⟩ := hf
    refine AW_iS2iz (w_X10_later (d := 0) e10) dX10_thingBy_90 kl_X10_147 (Nat.le_trans (by decide) hd) (by decide) (Nat.le_of_ble_eq_true rfl) (fun _ => ?_)
    exact AW_iret dX10_thingBy_93 rfl (hq _ (Option.some.inj hf).symm)
  replace hf := rk_if hf h3
  by_cases h4 : a2 = 4
  · replace hf := rk_it hf h4
    refine AW_tableIn 94 dX10_thingBy_10 (by rw [h4]; decide) (by rw [h4]; decide) (by rw [h4]; rfl) (by decide) ?_
    refine AW_aload_n0 dX10_thingBy_94 ?_
    refine AW_getR dX10_thingBy_95 kf_X10_29 rfl (hM.1 31 (by decide) (by decide)) (by decide) (hM.2 31 9 37 rfl) ?_
    refine AW_iload_n3 dX10_thingBy_98 ?_
    refine AW_iconst (v := 2) dX10_thingBy_99 (by decide) ?_
    refine AW_iadd dX10_thingBy_100 ?_
    replace hf := rk_bd hf
    obtain ⟨x11, e11, hf⟩ := hf
    refine AW_rd dX10_thingBy_101 (hM.1 37 (by decide) (by decide)) e11 ?_
    refine AW_aload_n0 dX10_thingBy_102 ?_
    refine AW_getR dX10_thingBy_103 kf_X10_29 rfl (hM.1 31 (by decide) (by decide)) (by decide) (hM.2 31 9 37 rfl) ?_
    refine AW_iload_n3 dX10_thingBy_106 ?_
    refine AW_iconst (v := 1) dX10_thingBy_107 (by decide) ?_
    refine AW_iadd dX10_thingBy_108 ?_
    replace hf := rk_bd hf
    obtain ⟨x12, e12, hf⟩ := hf
    refine AW_rd dX10_thingBy_109 (hM.1 37 (by decide) (by decide)) e12 ?_
    refine AW_aload_n0 dX10_thingBy_110 ?_
    refine AW_getR dX10_thingBy_111 kf_X10_50 rfl (hM.1 31 (by decide) (by decide)) (by decide) (hM.2 31 17 44 rfl) ?_
    refine AW_iload_n1 dX10_thingBy_114 ?_
    replace hf := rk_bd hf
    obtain ⟨x13, e13, hf⟩ := hf
    refine AW_rd dX10_thingBy_115 (hM.1 44 (by decide) (by decide)) e13 ?_
    replace hf := rk_bd hf
    obtain ⟨x14, e14, hf⟩ := hf
    refine AW_iS2iz (w_X10_later (d := 0) e14) dX10_thingBy_116 kl_X10_147 (Nat.le_trans (by decide) hd) (by decide) (Nat.le_of_ble_eq_true rfl) (fun _ => ?_)
    replace hf := rk_bd hf
    obtain ⟨x15, e15, hf⟩ := hf
    refine AW_iS2iz (w_X10_later (d := 0) e15) dX10_thingBy_119 kl_X10_147 (Nat.le_trans (by decide) hd) (by decide) (Nat.le_of_ble_eq_true rfl) (fun _ => ?_)
    exact AW_iret dX10_thingBy_122 rfl (hq _ (Option.some.inj hf).symm)
  replace hf := rk_if hf h4
  by_cases h5 : a2 = 5
  · replace hf := rk_it hf h5
    refine AW_tableIn 78 dX10_thingBy_10 (by rw [h5]; decide) (by rw [h5]; decide) (by rw [h5]; rfl) (by decide) ?_
    refine AW_aload_n0 dX10_thingBy_78 ?_
    refine AW_getR dX10_thingBy_79 kf_X10_53 rfl (hM.1 31 (by decide) (by decide)) (by decide) (hM.2 31 18 45 rfl) ?_
    refine AW_iload_n1 dX10_thingBy_82 ?_
    replace hf := rk_bd hf
    obtain ⟨x16, e16, hf⟩ := hf
    refine AW_rd dX10_thingBy_83 (hM.1 45 (by decide) (by decide)) e16 ?_
    refine AW_aload_n0 dX10_thingBy_84 ?_
    refine AW_getR dX10_thingBy_85 kf_X10_50 rfl (hM.1 31 (by decide) (by decide)) (by decide) (hM.2 31 17 44 rfl) ?_
    refine AW_iload_n1 dX10_thingBy_88 ?_
    replace hf := rk_bd hf
    obtain ⟨x17, e17, hf⟩ := hf
    refine AW_rd dX10_thingBy_89 (hM.1 44 (by decide) (by decide)) e17 ?_
    replace hf := rk_bd hf
    obtain ⟨x18, e18, hf⟩ := hf
    refine AW_iS2iz (w_X10_later (d := 0) e18) dX10_thingBy_90 kl_X10_147 (Nat.le_trans (by decide) hd) (by decide) (Nat.le_of_ble_eq_true rfl) (fun _ => ?_)
    exact AW_iret dX10_thingBy_93 rfl (hq _ (Option.some.inj hf).symm)
  replace hf := rk_if hf h5
  refine AW_tableOut 123 dX10_thingBy_10 (by
    have g_h1 : ¬ (a2).toInt = 1 := fun z => h1 (Int32.toInt_inj.mp z)
    have g_h2 : ¬ (a2).toInt = 2 := fun z => h2 (Int32.toInt_inj.mp z)
    have g_h3 : ¬ (a2).toInt = 3 := fun z => h3 (Int32.toInt_inj.mp z)
    have g_h4 : ¬ (a2).toInt = 4 := fun z => h4 (Int32.toInt_inj.mp z)
    have g_h5 : ¬ (a2).toInt = 5 := fun z => h5 (Int32.toInt_inj.mp z)
    omega) (by decide) ?_
  refine AW_aload_n0 dX10_thingBy_123 ?_
  refine AW_getR dX10_thingBy_124 kf_X10_50 rfl (hM.1 31 (by decide) (by decide)) (by decide) (hM.2 31 17 44 rfl) ?_
  refine AW_iload_n1 dX10_thingBy_127 ?_
  replace hf := rk_bd hf
  obtain ⟨x19, e19, hf⟩ := hf
  refine AW_rd dX10_thingBy_128 (hM.1 44 (by decide) (by decide)) e19 ?_
  exact AW_iret dX10_thingBy_129 rfl (hq _ (Option.some.inj hf).symm)
theorem w_X10_thingBy {G : rk_G} {l : Launch} {d : Nat} {n : Nat} {S : rk_Sh} {I : rk_I} {J : rk_J} {R : rk_R} {a1 : Int32} {a2 : Int32} {v8 : Int32} (hd : 1 ≤ d) (hM : rk_LM S R) (hf : f_X10_thingBy I a1 a2 = some v8) :
    CW G l yX10_thingBy cX10_thingBy 4 (some .int) d 0 0 [.ref 31, .int a1, .int a2] n S I J R (rk_qi v8 n S I J R True) :=
  CW.of (by decide +kernel) (Nat.le_of_ble_eq_true rfl) (rk_sbs (rk_sbs (rk_sbs (rk_sbe rk_sb0)))) (b_X10_thingBy hd hM hf (fun v9 h9 => by cases h9; exact ⟨rfl, rfl, rfl, rfl, rfl, rfl, trivial⟩))
noncomputable def f_X10_lossBy (I : rk_I) (a1 : Int32) (a2 : Int32) : Option (Int32) :=
(f_X10_thingBy I a1 1).bind fun x1 =>
if a2 = 1 then (
some x1) else
if a2 = 2 then (
(f_X10_thingBy I a1 2).bind fun x2 =>
some x2) else
if a2 = 3 then (
some x1) else
if a2 = 4 then (
(f_X10_thingBy I a1 2).bind fun x3 =>
some x3) else
if a2 = 5 then (
if x1 = 1000 then (
some 1000) else (
(rk_rd I 44 24 a1).bind fun x4 =>
(rk_rd I 44 24 a1).bind fun x5 =>
some (x4 + ((x1 - x5) / 2)))) else
(rk_rd I 44 24 a1).bind fun x6 =>
some x6
theorem b_X10_lossBy {G : rk_G} {l : Launch} {d kc ks : Nat} {n : Nat} {S : rk_Sh} {I : rk_I} {J : rk_J} {R : rk_R} {Q : rk_Q} {a1 : Int32} {a2 : Int32} {r : Int32} (hd : 2 ≤ d) (hM : rk_LM S R) (hf : f_X10_lossBy I a1 a2 = some r) (hq : ∀ (v9 : Int32), r = v9 → Q (some (.int v9)) n S I J R) :
    AW G l yX10_lossBy cX10_lossBy 4 (some .int) d kc ks 0 [some (.ref 31), some (.int a1), some (.int a2), none] [] n S I J R Q := by
  unfold f_X10_lossBy at hf
  refine AW_aload_n0 dX10_lossBy_0 ?_
  refine AW_iload_n1 dX10_lossBy_1 ?_
  refine AW_iconst (v := 1) dX10_lossBy_2 (by decide) ?_
  replace hf := rk_bd hf
  obtain ⟨x1, e1, hf⟩ := hf
  refine AW_iV2iz (w_X10_thingBy (d := 1) (Nat.le_refl _) hM e1) dX10_lossBy_3 kl_X10_151 (hM.1 31 (by decide) (by decide)) rfl (Nat.le_trans (by decide) hd) (by decide) (Nat.le_of_ble_eq_true rfl) (fun _ => ?_)
  refine AW_istore_n3 dX10_lossBy_6 (by decide) rfl ?_
  refine AW_iload_n2 dX10_lossBy_7 ?_
  by_cases h1 : a2 = 1
  · replace hf := rk_it hf h1
    refine AW_tableIn 44 dX10_lossBy_8 (by rw [h1]; decide) (by rw [h1]; decide) (by rw [h1]; rfl) (by decide) ?_
    refine AW_iload_n3 dX10_lossBy_44 ?_
    exact AW_iret dX10_lossBy_45 rfl (hq _ (Option.some.inj hf).symm)
  replace hf := rk_if hf h1
  by_cases h2 : a2 = 2
  · replace hf := rk_it hf h2
    refine AW_tableIn 46 dX10_lossBy_8 (by rw [h2]; decide) (by rw [h2]; decide) (by rw [h2]; rfl) (by decide) ?_
    refine AW_aload_n0 dX10_lossBy_46 ?_
    refine AW_iload_n1 dX10_lossBy_47 ?_
    refine AW_iconst (v := 2) dX10_lossBy_48 (by decide) ?_
    replace hf := rk_bd hf
    obtain ⟨x2, e2, hf⟩ := hf
    refine AW_iV2iz (w_X10_thingBy (d := 1) (Nat.le_refl _) hM e2) dX10_lossBy_49 kl_X10_151 (hM.1 31 (by decide) (by decide)) rfl (Nat.le_trans (by decide) hd) (by decide) (Nat.le_of_ble_eq_true rfl) (fun _ => ?_)
    exact AW_iret dX10_lossBy_52 rfl (hq _ (Option.some.inj hf).symm)
  replace hf := rk_if hf h2
  by_cases h3 : a2 = 3
  · replace hf := rk_it hf h3
    refine AW_tableIn 44 dX10_lossBy_8 (by rw [h3]; decide) (by rw [h3]; decide) (by rw [h3]; rfl) (by decide) ?_
    refine AW_iload_n3 dX10_lossBy_44 ?_
    exact AW_iret dX10_lossBy_45 rfl (hq _ (Option.some.inj hf).symm)
  replace hf := rk_if hf h3
  by_cases h4 : a2 = 4
  · replace hf := rk_it hf h4
    refine AW_tableIn 46 dX10_lossBy_8 (by rw [h4]; decide) (by rw [h4]; decide) (by rw [h4]; rfl) (by decide) ?_
    refine AW_aload_n0 dX10_lossBy_46 ?_
    refine AW_iload_n1 dX10_lossBy_47 ?_
    refine AW_iconst (v := 2) dX10_lossBy_48 (by decide) ?_
    replace hf := rk_bd hf
    obtain ⟨x3, e3, hf⟩ := hf
    refine AW_iV2iz (w_X10_thingBy (d := 1) (Nat.le_refl _) hM e3) dX10_lossBy_49 kl_X10_151 (hM.1 31 (by decide) (by decide)) rfl (Nat.le_trans (by decide) hd) (by decide) (Nat.le_of_ble_eq_true rfl) (fun _ => ?_)
    exact AW_iret dX10_lossBy_52 rfl (hq _ (Option.some.inj hf).symm)
  replace hf := rk_if hf h4
  by_cases h5 : a2 = 5
  · replace hf := rk_it hf h5
    refine AW_tableIn 53 dX10_lossBy_8 (by rw [h5]; decide) (by rw [h5]; decide) (by rw [h5]; rfl) (by decide) ?_
    refine AW_iload_n3 dX10_lossBy_53 ?_
    refine AW_sipush (v := 1000) dX10_lossBy_54 (by decide) ?_
    refine AW_icmp_ne 66 dX10_lossBy_57 (by decide) (fun h6 => ?_) (fun h6 => ?_)
    · replace hf := rk_if hf h6
      refine AW_aload_n0 dX10_lossBy_66 ?_
      refine AW_getR dX10_lossBy_67 kf_X10_50 rfl (hM.1 31 (by decide) (by decide)) (by decide) (hM.2 31 17 44 rfl) ?_
      refine AW_iload_n1 dX10_lossBy_70 ?_
      replace hf := rk_bd hf
      obtain ⟨x4, e4, hf⟩ := hf
      refine AW_rd dX10_lossBy_71 (hM.1 44 (by decide) (by decide)) e4 ?_
      refine AW_iload_n3 dX10_lossBy_72 ?_
      refine AW_aload_n0 dX10_lossBy_73 ?_
      refine AW_getR dX10_lossBy_74 kf_X10_50 rfl (hM.1 31 (by decide) (by decide)) (by decide) (hM.2 31 17 44 rfl) ?_
      refine AW_iload_n1 dX10_lossBy_77 ?_
      replace hf := rk_bd hf
      obtain ⟨x5, e5, hf⟩ := hf
      refine AW_rd dX10_lossBy_78 (hM.1 44 (by decide) (by decide)) e5 ?_
      refine AW_isub dX10_lossBy_79 ?_
      refine AW_iconst (v := 2) dX10_lossBy_80 (by decide) ?_
      refine AW_idiv dX10_lossBy_81 (by decide) ?_
      refine AW_iadd dX10_lossBy_82 ?_
      exact AW_iret dX10_lossBy_83 rfl (hq _ (Option.some.inj hf).symm)
    · replace hf := rk_it hf h6
      refine AW_sipush (v := 1000) dX10_lossBy_60 (by decide) ?_
      refine AW_goto 83 dX10_lossBy_63 (by decide) ?_
      exact AW_iret dX10_lossBy_83 rfl (hq _ (Option.some.inj hf).symm)
  replace hf := rk_if hf h5
  refine AW_tableOut 84 dX10_lossBy_8 (by
    have g_h1 : ¬ (a2).toInt = 1 := fun z => h1 (Int32.toInt_inj.mp z)
    have g_h2 : ¬ (a2).toInt = 2 := fun z => h2 (Int32.toInt_inj.mp z)
    have g_h3 : ¬ (a2).toInt = 3 := fun z => h3 (Int32.toInt_inj.mp z)
    have g_h4 : ¬ (a2).toInt = 4 := fun z => h4 (Int32.toInt_inj.mp z)
    have g_h5 : ¬ (a2).toInt = 5 := fun z => h5 (Int32.toInt_inj.mp z)
    omega) (by decide) ?_
  refine AW_aload_n0 dX10_lossBy_84 ?_
  refine AW_getR dX10_lossBy_85 kf_X10_50 rfl (hM.1 31 (by decide) (by decide)) (by decide) (hM.2 31 17 44 rfl) ?_
  refine AW_iload_n1 dX10_lossBy_88 ?_
  replace hf := rk_bd hf
  obtain ⟨x6, e6, hf⟩ := hf
  refine AW_rd dX10_lossBy_89 (hM.1 44 (by decide) (by decide)) e6 ?_
  exact AW_iret dX10_lossBy_90 rfl (hq _ (Option.some.inj hf).symm)
theorem w_X10_lossBy {G : rk_G} {l : Launch} {d : Nat} {n : Nat} {S : rk_Sh} {I : rk_I} {J : rk_J} {R : rk_R} {a1 : Int32} {a2 : Int32} {v8 : Int32} (hd : 2 ≤ d) (hM : rk_LM S R) (hf : f_X10_lossBy I a1 a2 = some v8) :
    CW G l yX10_lossBy cX10_lossBy 4 (some .int) d 0 0 [.ref 31, .int a1, .int a2] n S I J R (rk_qi v8 n S I J R True) :=
  CW.of (by decide +kernel) (Nat.le_of_ble_eq_true rfl) (rk_sbs (rk_sbs (rk_sbs (rk_sbe rk_sb0)))) (b_X10_lossBy hd hM hf (fun v9 h9 => by cases h9; exact ⟨rfl, rfl, rfl, rfl, rfl, rfl, trivial⟩))
