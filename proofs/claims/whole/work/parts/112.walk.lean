noncomputable def f_X10_init (S : rk_Sh) (I : rk_I) (J : rk_J) (R : rk_R)  : Option (rk_Sh × rk_I × rk_J × rk_R) :=
(some (rk_sh S 32 20 960)).bind fun S1 =>
(some (rk_zi I 32)).bind fun I1 =>
(some (rk_zj J 32)).bind fun J1 =>
(some (rk_zr R 32)).bind fun R1 =>
(rk_ck S1 31 9 46).bind fun _ =>
(some (rk_ur R1 31 1 (some 32))).bind fun R2 =>
(some (rk_sh S1 33 20 6)).bind fun S2 =>
(some (rk_zi I1 33)).bind fun I2 =>
(some (rk_zj J1 33)).bind fun J2 =>
(some (rk_zr R2 33)).bind fun R3 =>
(rk_ck S2 31 9 46).bind fun _ =>
(some (rk_ur R3 31 2 (some 33))).bind fun R4 =>
(some (rk_sh S2 34 20 160)).bind fun S3 =>
(some (rk_zi I2 34)).bind fun I3 =>
(some (rk_zj J2 34)).bind fun J3 =>
(some (rk_zr R4 34)).bind fun R5 =>
(rk_ck S3 31 9 46).bind fun _ =>
(some (rk_ur R5 31 5 (some 34))).bind fun R6 =>
(some (rk_sh S3 35 20 4)).bind fun S4 =>
(some (rk_zi I3 35)).bind fun I4 =>
(some (rk_zj J3 35)).bind fun J4 =>
(some (rk_zr R6 35)).bind fun R7 =>
(rk_ck S4 31 9 46).bind fun _ =>
(some (rk_ur R7 31 7 (some 35))).bind fun R8 =>
(some (rk_sh S4 36 20 4)).bind fun S5 =>
(some (rk_zi I4 36)).bind fun I5 =>
(some (rk_zj J4 36)).bind fun J5 =>
(some (rk_zr R8 36)).bind fun R9 =>
(rk_ck S5 31 9 46).bind fun _ =>
(some (rk_ur R9 31 8 (some 36))).bind fun R10 =>
(some (rk_sh S5 37 20 12)).bind fun S6 =>
(some (rk_zi I5 37)).bind fun I6 =>
(some (rk_zj J5 37)).bind fun J6 =>
(some (rk_zr R10 37)).bind fun R11 =>
(rk_ck S6 31 9 46).bind fun _ =>
(some (rk_ur R11 31 9 (some 37))).bind fun R12 =>
(some (rk_sh S6 38 20 24)).bind fun S7 =>
(some (rk_zi I6 38)).bind fun I7 =>
(some (rk_zj J6 38)).bind fun J7 =>
(some (rk_zr R12 38)).bind fun R13 =>
(rk_ck S7 31 9 46).bind fun _ =>
(some (rk_ur R13 31 11 (some 38))).bind fun R14 =>
(some (rk_sh S7 39 20 24)).bind fun S8 =>
(some (rk_zi I7 39)).bind fun I8 =>
(some (rk_zj J7 39)).bind fun J8 =>
(some (rk_zr R14 39)).bind fun R15 =>
(rk_ck S8 31 9 46).bind fun _ =>
(some (rk_ur R15 31 12 (some 39))).bind fun R16 =>
(some (rk_sh S8 40 20 24)).bind fun S9 =>
(some (rk_zi I8 40)).bind fun I9 =>
(some (rk_zj J8 40)).bind fun J9 =>
(some (rk_zr R16 40)).bind fun R17 =>
(rk_ck S9 31 9 46).bind fun _ =>
(some (rk_ur R17 31 13 (some 40))).bind fun R18 =>
(some (rk_sh S9 41 20 24)).bind fun S10 =>
(some (rk_zi I9 41)).bind fun I10 =>
(some (rk_zj J9 41)).bind fun J10 =>
(some (rk_zr R18 41)).bind fun R19 =>
(rk_ck S10 31 9 46).bind fun _ =>
(some (rk_ur R19 31 14 (some 41))).bind fun R20 =>
(some (rk_sh S10 42 20 24)).bind fun S11 =>
(some (rk_zi I10 42)).bind fun I11 =>
(some (rk_zj J10 42)).bind fun J11 =>
(some (rk_zr R20 42)).bind fun R21 =>
(rk_ck S11 31 9 46).bind fun _ =>
(some (rk_ur R21 31 15 (some 42))).bind fun R22 =>
(some (rk_sh S11 43 20 24)).bind fun S12 =>
(some (rk_zi I11 43)).bind fun I12 =>
(some (rk_zj J11 43)).bind fun J12 =>
(some (rk_zr R22 43)).bind fun R23 =>
(rk_ck S12 31 9 46).bind fun _ =>
(some (rk_ur R23 31 16 (some 43))).bind fun R24 =>
(some (rk_sh S12 44 20 24)).bind fun S13 =>
(some (rk_zi I12 44)).bind fun I13 =>
(some (rk_zj J12 44)).bind fun J13 =>
(some (rk_zr R24 44)).bind fun R25 =>
(rk_ck S13 31 9 46).bind fun _ =>
(some (rk_ur R25 31 17 (some 44))).bind fun R26 =>
(some (rk_sh S13 45 20 24)).bind fun S14 =>
(some (rk_zi I13 45)).bind fun I14 =>
(some (rk_zj J13 45)).bind fun J14 =>
(some (rk_zr R26 45)).bind fun R27 =>
(rk_ck S14 31 9 46).bind fun _ =>
(some (rk_ur R27 31 18 (some 45))).bind fun R28 =>
(some (rk_sh S14 46 20 24)).bind fun S15 =>
(some (rk_zi I14 46)).bind fun I15 =>
(some (rk_zj J14 46)).bind fun J15 =>
(some (rk_zr R28 46)).bind fun R29 =>
(rk_ck S15 31 9 46).bind fun _ =>
(some (rk_ur R29 31 19 (some 46))).bind fun R30 =>
(some (rk_sh S15 47 20 10)).bind fun S16 =>
(some (rk_zi I15 47)).bind fun I16 =>
(some (rk_zj J15 47)).bind fun J16 =>
(some (rk_zr R30 47)).bind fun R31 =>
(rk_ck S16 31 9 46).bind fun _ =>
(some (rk_ur R31 31 21 (some 47))).bind fun R32 =>
(some (rk_sh S16 48 20 24)).bind fun S17 =>
(some (rk_zi I16 48)).bind fun I17 =>
(some (rk_zj J16 48)).bind fun J17 =>
(some (rk_zr R32 48)).bind fun R33 =>
(rk_ck S17 31 9 46).bind fun _ =>
(some (rk_ur R33 31 22 (some 48))).bind fun R34 =>
(some (rk_sh S17 49 20 10)).bind fun S18 =>
(some (rk_zi I17 49)).bind fun I18 =>
(some (rk_zj J17 49)).bind fun J18 =>
(some (rk_zr R34 49)).bind fun R35 =>
(rk_ck S18 31 9 46).bind fun _ =>
(some (rk_ur R35 31 34 (some 49))).bind fun R36 =>
(some (rk_sh S18 50 20 12)).bind fun S19 =>
(some (rk_zi I18 50)).bind fun I19 =>
(some (rk_zj J18 50)).bind fun J19 =>
(some (rk_zr R36 50)).bind fun R37 =>
(rk_ck S19 31 9 46).bind fun _ =>
(some (rk_ur R37 31 35 (some 50))).bind fun R38 =>
(some (rk_sh S19 51 20 24)).bind fun S20 =>
(some (rk_zi I19 51)).bind fun I20 =>
(some (rk_zj J19 51)).bind fun J20 =>
(some (rk_zr R38 51)).bind fun R39 =>
(rk_ck S20 31 9 46).bind fun _ =>
(some (rk_ur R39 31 36 (some 51))).bind fun R40 =>
(some (rk_sh S20 52 20 24)).bind fun S21 =>
(some (rk_zi I20 52)).bind fun I21 =>
(some (rk_zj J20 52)).bind fun J21 =>
(some (rk_zr R40 52)).bind fun R41 =>
(rk_ck S21 31 9 46).bind fun _ =>
(some (rk_ur R41 31 37 (some 52))).bind fun R42 =>
(some (rk_sh S21 53 21 4)).bind fun S22 =>
(some (rk_zi I21 53)).bind fun I22 =>
(some (rk_zj J21 53)).bind fun J22 =>
(some (rk_zr R42 53)).bind fun R43 =>
(rk_ck S22 31 9 46).bind fun _ =>
(some (rk_ur R43 31 42 (some 53))).bind fun R44 =>
(some (rk_sh S22 54 20 4)).bind fun S23 =>
(some (rk_zi I22 54)).bind fun I23 =>
(some (rk_zj J22 54)).bind fun J23 =>
(some (rk_zr R44 54)).bind fun R45 =>
(rk_ck S23 31 9 46).bind fun _ =>
(some (rk_ur R45 31 43 (some 54))).bind fun R46 =>
(some (rk_sh S23 55 20 4)).bind fun S24 =>
(some (rk_zi I23 55)).bind fun I24 =>
(some (rk_zj J23 55)).bind fun J24 =>
(some (rk_zr R46 55)).bind fun R47 =>
(rk_ck S24 31 9 46).bind fun _ =>
(some (rk_ur R47 31 44 (some 55))).bind fun R48 =>
(some (rk_sh S24 56 20 160)).bind fun S25 =>
(some (rk_zi I24 56)).bind fun I25 =>
(some (rk_zj J24 56)).bind fun J25 =>
(some (rk_zr R48 56)).bind fun R49 =>
(rk_ck S25 31 9 46).bind fun _ =>
(some (rk_ur R49 31 45 (some 56))).bind fun R50 =>
(rk_layM S25 R50).bind fun _ =>
(f_X10_spell I25 0 7809651206517694524).bind fun I26 =>
(f_X10_spell I26 8 2335238957008170272).bind fun I27 =>
(f_X10_spell I27 16 3832598721210840436).bind fun I28 =>
(f_X10_spell I28 24 2319389246415402095).bind fun I29 =>
(f_X10_spell I29 32 8079572559423742012).bind fun I30 =>
(f_X10_spell I30 40 2319969673038274592).bind fun I31 =>
(rk_ckR R50 31 2 33).bind fun _ =>
(rk_ck S25 33 20 6).bind fun _ =>
(rk_wr I31 33 6 0 48).bind fun I32 =>
(some (rk_ui I32 31 3 1)).bind fun I33 =>
some (S25, I33, J25, R50)
theorem b_X10_init {G : rk_G} {l : Launch} {d : Nat} {S : rk_Sh} {I : rk_I} {J : rk_J} {R : rk_R} {Q : rk_Q}  {r : rk_Sh × rk_I × rk_J × rk_R} (hd : 1 ≤ d) (hf : f_X10_init S I J R = some r) (hq : ∀ (S9 : rk_Sh) (I9 : rk_I) (J9 : rk_J) (R9 : rk_R), r = (S9, I9, J9, R9) → Q (none) 57 S9 I9 J9 R9) :
    AW G l yX10_init cX10_init 1 none d 25 1638 0 [some (.ref 31)] [] 32 S I J R Q := by
  unfold f_X10_init at hf
  refine AW_aload_n0 dX10_init_0 ?_
  refine AW_objInit dX10_init_1 ko_X10_7 (Nat.le_trans (by decide) hd) (Nat.le_of_ble_eq_true rfl) ?_
  refine AW_aload_n0 dX10_init_4 ?_
  refine AW_sipush (v := 960) dX10_init_5 (by decide) ?_
  replace hf := rk_bd hf
  obtain ⟨S1, e2, hf⟩ := hf
  replace hf := rk_bd hf
  obtain ⟨I1, e3, hf⟩ := hf
  replace hf := rk_bd hf
  obtain ⟨J1, e4, hf⟩ := hf
  replace hf := rk_bd hf
  obtain ⟨R1, e5, hf⟩ := hf
  refine AW_nwI (N := 960) dX10_init_8 kA_int (by decide) (by decide) (by decide) (by decide) e2 e3 e4 e5 ?_
  replace hf := rk_bd hf
  obtain ⟨_, e6, hf⟩ := hf
  have e6 := rk_ck_sp e6
  replace hf := rk_bd hf
  obtain ⟨R2, e7, hf⟩ := hf
  refine AW_puAF dX10_init_10 kf_X10_13 rfl e6 (by decide) rfl rfl e7 ?_
  refine AW_aload_n0 dX10_init_13 ?_
  refine AW_bipush (v := 6) dX10_init_14 (by decide) ?_
  replace hf := rk_bd hf
  obtain ⟨S2, e9, hf⟩ := hf
  replace hf := rk_bd hf
  obtain ⟨I2, e10, hf⟩ := hf
  replace hf := rk_bd hf
  obtain ⟨J2, e11, hf⟩ := hf
  replace hf := rk_bd hf
  obtain ⟨R3, e12, hf⟩ := hf
  refine AW_nwI (N := 6) dX10_init_16 kA_int (by decide) (by decide) (by decide) (by decide) e9 e10 e11 e12 ?_
  replace hf := rk_bd hf
  obtain ⟨_, e13, hf⟩ := hf
  have e13 := rk_ck_sp e13
  replace hf := rk_bd hf
  obtain ⟨R4, e14, hf⟩ := hf
  refine AW_puAF dX10_init_18 kf_X10_17 rfl e13 (by decide) rfl rfl e14 ?_
  refine AW_aload_n0 dX10_init_21 ?_
  refine AW_sipush (v := 160) dX10_init_22 (by decide) ?_
  replace hf := rk_bd hf
  obtain ⟨S3, e16, hf⟩ := hf
  replace hf := rk_bd hf
  obtain ⟨I3, e17, hf⟩ := hf
  replace hf := rk_bd hf
  obtain ⟨J3, e18, hf⟩ := hf
  replace hf := rk_bd hf
  obtain ⟨R5, e19, hf⟩ := hf
  refine AW_nwI (N := 160) dX10_init_25 kA_int (by decide) (by decide) (by decide) (by decide) e16 e17 e18 e19 ?_
  replace hf := rk_bd hf
  obtain ⟨_, e20, hf⟩ := hf
  have e20 := rk_ck_sp e20
  replace hf := rk_bd hf
  obtain ⟨R6, e21, hf⟩ := hf
  refine AW_puAF dX10_init_27 kf_X10_20 rfl e20 (by decide) rfl rfl e21 ?_
  refine AW_aload_n0 dX10_init_30 ?_
  refine AW_iconst (v := 4) dX10_init_31 (by decide) ?_
  replace hf := rk_bd hf
  obtain ⟨S4, e23, hf⟩ := hf
  replace hf := rk_bd hf
  obtain ⟨I4, e24, hf⟩ := hf
  replace hf := rk_bd hf
  obtain ⟨J4, e25, hf⟩ := hf
  replace hf := rk_bd hf
  obtain ⟨R7, e26, hf⟩ := hf
  refine AW_nwI (N := 4) dX10_init_32 kA_int (by decide) (by decide) (by decide) (by decide) e23 e24 e25 e26 ?_
  replace hf := rk_bd hf
  obtain ⟨_, e27, hf⟩ := hf
  have e27 := rk_ck_sp e27
  replace hf := rk_bd hf
  obtain ⟨R8, e28, hf⟩ := hf
  refine AW_puAF dX10_init_34 kf_X10_23 rfl e27 (by decide) rfl rfl e28 ?_
  refine AW_aload_n0 dX10_init_37 ?_
  refine AW_iconst (v := 4) dX10_init_38 (by decide) ?_
  replace hf := rk_bd hf
  obtain ⟨S5, e30, hf⟩ := hf
  replace hf := rk_bd hf
  obtain ⟨I5, e31, hf⟩ := hf
  replace hf := rk_bd hf
  obtain ⟨J5, e32, hf⟩ := hf
  replace hf := rk_bd hf
  obtain ⟨R9, e33, hf⟩ := hf
  refine AW_nwI (N := 4) dX10_init_39 kA_int (by decide) (by decide) (by decide) (by decide) e30 e31 e32 e33 ?_
  replace hf := rk_bd hf
  obtain ⟨_, e34, hf⟩ := hf
  have e34 := rk_ck_sp e34
  replace hf := rk_bd hf
  obtain ⟨R10, e35, hf⟩ := hf
  refine AW_puAF dX10_init_41 kf_X10_26 rfl e34 (by decide) rfl rfl e35 ?_
  refine AW_aload_n0 dX10_init_44 ?_
  refine AW_bipush (v := 12) dX10_init_45 (by decide) ?_
  replace hf := rk_bd hf
  obtain ⟨S6, e37, hf⟩ := hf
  replace hf := rk_bd hf
  obtain ⟨I6, e38, hf⟩ := hf
  replace hf := rk_bd hf
  obtain ⟨J6, e39, hf⟩ := hf
  replace hf := rk_bd hf
  obtain ⟨R11, e40, hf⟩ := hf
  refine AW_nwI (N := 12) dX10_init_47 kA_int (by decide) (by decide) (by decide) (by decide) e37 e38 e39 e40 ?_
  replace hf := rk_bd hf
  obtain ⟨_, e41, hf⟩ := hf
  have e41 := rk_ck_sp e41
  replace hf := rk_bd hf
  obtain ⟨R12, e42, hf⟩ := hf
  refine AW_puAF dX10_init_49 kf_X10_29 rfl e41 (by decide) rfl rfl e42 ?_
  refine AW_aload_n0 dX10_init_52 ?_
  refine AW_bipush (v := 24) dX10_init_53 (by decide) ?_
  replace hf := rk_bd hf
  obtain ⟨S7, e44, hf⟩ := hf
  replace hf := rk_bd hf
  obtain ⟨I7, e45, hf⟩ := hf
  replace hf := rk_bd hf
  obtain ⟨J7, e46, hf⟩ := hf
  replace hf := rk_bd hf
  obtain ⟨R13, e47, hf⟩ := hf
  refine AW_nwI (N := 24) dX10_init_55 kA_int (by decide) (by decide) (by decide) (by decide) e44 e45 e46 e47 ?_
  replace hf := rk_bd hf
  obtain ⟨_, e48, hf⟩ := hf
  have e48 := rk_ck_sp e48
  replace hf := rk_bd hf
  obtain ⟨R14, e49, hf⟩ := hf
  refine AW_puAF dX10_init_57 kf_X10_32 rfl e48 (by decide) rfl rfl e49 ?_
  refine AW_aload_n0 dX10_init_60 ?_
  refine AW_bipush (v := 24) dX10_init_61 (by decide) ?_
  replace hf := rk_bd hf
  obtain ⟨S8, e51, hf⟩ := hf
  replace hf := rk_bd hf
  obtain ⟨I8, e52, hf⟩ := hf
  replace hf := rk_bd hf
  obtain ⟨J8, e53, hf⟩ := hf
  replace hf := rk_bd hf
  obtain ⟨R15, e54, hf⟩ := hf
  refine AW_nwI (N := 24) dX10_init_63 kA_int (by decide) (by decide) (by decide) (by decide) e51 e52 e53 e54 ?_
  replace hf := rk_bd hf
  obtain ⟨_, e55, hf⟩ := hf
  have e55 := rk_ck_sp e55
  replace hf := rk_bd hf
  obtain ⟨R16, e56, hf⟩ := hf
  refine AW_puAF dX10_init_65 kf_X10_35 rfl e55 (by decide) rfl rfl e56 ?_
  refine AW_aload_n0 dX10_init_68 ?_
  refine AW_bipush (v := 24) dX10_init_69 (by decide) ?_
  replace hf := rk_bd hf
  obtain ⟨S9, e58, hf⟩ := hf
  replace hf := rk_bd hf
  obtain ⟨I9, e59, hf⟩ := hf
  replace hf := rk_bd hf
  obtain ⟨J9, e60, hf⟩ := hf
  replace hf := rk_bd hf
  obtain ⟨R17, e61, hf⟩ := hf
  refine AW_nwI (N := 24) dX10_init_71 kA_int (by decide) (by decide) (by decide) (by decide) e58 e59 e60 e61 ?_
  replace hf := rk_bd hf
  obtain ⟨_, e62, hf⟩ := hf
  have e62 := rk_ck_sp e62
  replace hf := rk_bd hf
  obtain ⟨R18, e63, hf⟩ := hf
  refine AW_puAF dX10_init_73 kf_X10_38 rfl e62 (by decide) rfl rfl e63 ?_
  refine AW_aload_n0 dX10_init_76 ?_
  refine AW_bipush (v := 24) dX10_init_77 (by decide) ?_
  replace hf := rk_bd hf
  obtain ⟨S10, e65, hf⟩ := hf
  replace hf := rk_bd hf
  obtain ⟨I10, e66, hf⟩ := hf
  replace hf := rk_bd hf
  obtain ⟨J10, e67, hf⟩ := hf
  replace hf := rk_bd hf
  obtain ⟨R19, e68, hf⟩ := hf
  refine AW_nwI (N := 24) dX10_init_79 kA_int (by decide) (by decide) (by decide) (by decide) e65 e66 e67 e68 ?_
  replace hf := rk_bd hf
  obtain ⟨_, e69, hf⟩ := hf
  have e69 := rk_ck_sp e69
  replace hf := rk_bd hf
  obtain ⟨R20, e70, hf⟩ := hf
  refine AW_puAF dX10_init_81 kf_X10_41 rfl e69 (by decide) rfl rfl e70 ?_
  refine AW_aload_n0 dX10_init_84 ?_
  refine AW_bipush (v := 24) dX10_init_85 (by decide) ?_
  replace hf := rk_bd hf
  obtain ⟨S11, e72, hf⟩ := hf
  replace hf := rk_bd hf
  obtain ⟨I11, e73, hf⟩ := hf
  replace hf := rk_bd hf
  obtain ⟨J11, e74, hf⟩ := hf
  replace hf := rk_bd hf
  obtain ⟨R21, e75, hf⟩ := hf
  refine AW_nwI (N := 24) dX10_init_87 kA_int (by decide) (by decide) (by decide) (by decide) e72 e73 e74 e75 ?_
  replace hf := rk_bd hf
  obtain ⟨_, e76, hf⟩ := hf
  have e76 := rk_ck_sp e76
  replace hf := rk_bd hf
  obtain ⟨R22, e77, hf⟩ := hf
  refine AW_puAF dX10_init_89 kf_X10_44 rfl e76 (by decide) rfl rfl e77 ?_
  refine AW_aload_n0 dX10_init_92 ?_
  refine AW_bipush (v := 24) dX10_init_93 (by decide) ?_
  replace hf := rk_bd hf
  obtain ⟨S12, e79, hf⟩ := hf
  replace hf := rk_bd hf
  obtain ⟨I12, e80, hf⟩ := hf
  replace hf := rk_bd hf
  obtain ⟨J12, e81, hf⟩ := hf
  replace hf := rk_bd hf
  obtain ⟨R23, e82, hf⟩ := hf
  refine AW_nwI (N := 24) dX10_init_95 kA_int (by decide) (by decide) (by decide) (by decide) e79 e80 e81 e82 ?_
  replace hf := rk_bd hf
  obtain ⟨_, e83, hf⟩ := hf
  have e83 := rk_ck_sp e83
  replace hf := rk_bd hf
  obtain ⟨R24, e84, hf⟩ := hf
  refine AW_puAF dX10_init_97 kf_X10_47 rfl e83 (by decide) rfl rfl e84 ?_
  refine AW_aload_n0 dX10_init_100 ?_
  refine AW_bipush (v := 24) dX10_init_101 (by decide) ?_
  replace hf := rk_bd hf
  obtain ⟨S13, e86, hf⟩ := hf
  replace hf := rk_bd hf
  obtain ⟨I13, e87, hf⟩ := hf
  replace hf := rk_bd hf
  obtain ⟨J13, e88, hf⟩ := hf
  replace hf := rk_bd hf
  obtain ⟨R25, e89, hf⟩ := hf
  refine AW_nwI (N := 24) dX10_init_103 kA_int (by decide) (by decide) (by decide) (by decide) e86 e87 e88 e89 ?_
  replace hf := rk_bd hf
  obtain ⟨_, e90, hf⟩ := hf
  have e90 := rk_ck_sp e90
  replace hf := rk_bd hf
  obtain ⟨R26, e91, hf⟩ := hf
  refine AW_puAF dX10_init_105 kf_X10_50 rfl e90 (by decide) rfl rfl e91 ?_
  refine AW_aload_n0 dX10_init_108 ?_
  refine AW_bipush (v := 24) dX10_init_109 (by decide) ?_
  replace hf := rk_bd hf
  obtain ⟨S14, e93, hf⟩ := hf
  replace hf := rk_bd hf
  obtain ⟨I14, e94, hf⟩ := hf
  replace hf := rk_bd hf
  obtain ⟨J14, e95, hf⟩ := hf
  replace hf := rk_bd hf
  obtain ⟨R27, e96, hf⟩ := hf
  refine AW_nwI (N := 24) dX10_init_111 kA_int (by decide) (by decide) (by decide) (by decide) e93 e94 e95 e96 ?_
  replace hf := rk_bd hf
  obtain ⟨_, e97, hf⟩ := hf
  have e97 := rk_ck_sp e97
  replace hf := rk_bd hf
  obtain ⟨R28, e98, hf⟩ := hf
  refine AW_puAF dX10_init_113 kf_X10_53 rfl e97 (by decide) rfl rfl e98 ?_
  refine AW_aload_n0 dX10_init_116 ?_
  refine AW_bipush (v := 24) dX10_init_117 (by decide) ?_
  replace hf := rk_bd hf
  obtain ⟨S15, e100, hf⟩ := hf
  replace hf := rk_bd hf
  obtain ⟨I15, e101, hf⟩ := hf
  replace hf := rk_bd hf
  obtain ⟨J15, e102, hf⟩ := hf
  replace hf := rk_bd hf
  obtain ⟨R29, e103, hf⟩ := hf
  refine AW_nwI (N := 24) dX10_init_119 kA_int (by decide) (by decide) (by decide) (by decide) e100 e101 e102 e103 ?_
  replace hf := rk_bd hf
  obtain ⟨_, e104, hf⟩ := hf
  have e104 := rk_ck_sp e104
  replace hf := rk_bd hf
  obtain ⟨R30, e105, hf⟩ := hf
  refine AW_puAF dX10_init_121 kf_X10_56 rfl e104 (by decide) rfl rfl e105 ?_
  refine AW_aload_n0 dX10_init_124 ?_
  refine AW_bipush (v := 10) dX10_init_125 (by decide) ?_
  replace hf := rk_bd hf
  obtain ⟨S16, e107, hf⟩ := hf
  replace hf := rk_bd hf
  obtain ⟨I16, e108, hf⟩ := hf
  replace hf := rk_bd hf
  obtain ⟨J16, e109, hf⟩ := hf
  replace hf := rk_bd hf
  obtain ⟨R31, e110, hf⟩ := hf
  refine AW_nwI (N := 10) dX10_init_127 kA_int (by decide) (by decide) (by decide) (by decide) e107 e108 e109 e110 ?_
  replace hf := rk_bd hf
  obtain ⟨_, e111, hf⟩ := hf
  have e111 := rk_ck_sp e111
  replace hf := rk_bd hf
  obtain ⟨R32, e112, hf⟩ := hf
  refine AW_puAF dX10_init_129 kf_X10_59 rfl e111 (by decide) rfl rfl e112 ?_
  refine AW_aload_n0 dX10_init_132 ?_
  refine AW_bipush (v := 24) dX10_init_133 (by decide) ?_
  replace hf := rk_bd hf
  obtain ⟨S17, e114, hf⟩ := hf
  replace hf := rk_bd hf
  obtain ⟨I17, e115, hf⟩ := hf
  replace hf := rk_bd hf
  obtain ⟨J17, e116, hf⟩ := hf
  replace hf := rk_bd hf
  obtain ⟨R33, e117, hf⟩ := hf
  refine AW_nwI (N := 24) dX10_init_135 kA_int (by decide) (by decide) (by decide) (by decide) e114 e115 e116 e117 ?_
  replace hf := rk_bd hf
  obtain ⟨_, e118, hf⟩ := hf
  have e118 := rk_ck_sp e118
  replace hf := rk_bd hf
  obtain ⟨R34, e119, hf⟩ := hf
  refine AW_puAF dX10_init_137 kf_X10_62 rfl e118 (by decide) rfl rfl e119 ?_
  refine AW_aload_n0 dX10_init_140 ?_
  refine AW_bipush (v := 10) dX10_init_141 (by decide) ?_
  replace hf := rk_bd hf
  obtain ⟨S18, e121, hf⟩ := hf
  replace hf := rk_bd hf
  obtain ⟨I18, e122, hf⟩ := hf
  replace hf := rk_bd hf
  obtain ⟨J18, e123, hf⟩ := hf
  replace hf := rk_bd hf
  obtain ⟨R35, e124, hf⟩ := hf
  refine AW_nwI (N := 10) dX10_init_143 kA_int (by decide) (by decide) (by decide) (by decide) e121 e122 e123 e124 ?_
  replace hf := rk_bd hf
  obtain ⟨_, e125, hf⟩ := hf
  have e125 := rk_ck_sp e125
  replace hf := rk_bd hf
  obtain ⟨R36, e126, hf⟩ := hf
  refine AW_puAF dX10_init_145 kf_X10_65 rfl e125 (by decide) rfl rfl e126 ?_
  refine AW_aload_n0 dX10_init_148 ?_
  refine AW_bipush (v := 12) dX10_init_149 (by decide) ?_
  replace hf := rk_bd hf
  obtain ⟨S19, e128, hf⟩ := hf
  replace hf := rk_bd hf
  obtain ⟨I19, e129, hf⟩ := hf
  replace hf := rk_bd hf
  obtain ⟨J19, e130, hf⟩ := hf
  replace hf := rk_bd hf
  obtain ⟨R37, e131, hf⟩ := hf
  refine AW_nwI (N := 12) dX10_init_151 kA_int (by decide) (by decide) (by decide) (by decide) e128 e129 e130 e131 ?_
  replace hf := rk_bd hf
  obtain ⟨_, e132, hf⟩ := hf
  have e132 := rk_ck_sp e132
  replace hf := rk_bd hf
  obtain ⟨R38, e133, hf⟩ := hf
  refine AW_puAF dX10_init_153 kf_X10_68 rfl e132 (by decide) rfl rfl e133 ?_
  refine AW_aload_n0 dX10_init_156 ?_
  refine AW_bipush (v := 24) dX10_init_157 (by decide) ?_
  replace hf := rk_bd hf
  obtain ⟨S20, e135, hf⟩ := hf
  replace hf := rk_bd hf
  obtain ⟨I20, e136, hf⟩ := hf
  replace hf := rk_bd hf
  obtain ⟨J20, e137, hf⟩ := hf
  replace hf := rk_bd hf
  obtain ⟨R39, e138, hf⟩ := hf
  refine AW_nwI (N := 24) dX10_init_159 kA_int (by decide) (by decide) (by decide) (by decide) e135 e136 e137 e138 ?_
  replace hf := rk_bd hf
  obtain ⟨_, e139, hf⟩ := hf
  have e139 := rk_ck_sp e139
  replace hf := rk_bd hf
  obtain ⟨R40, e140, hf⟩ := hf
  refine AW_puAF dX10_init_161 kf_X10_71 rfl e139 (by decide) rfl rfl e140 ?_
  refine AW_aload_n0 dX10_init_164 ?_
  refine AW_bipush (v := 24) dX10_init_165 (by decide) ?_
  replace hf := rk_bd hf
  obtain ⟨S21, e142, hf⟩ := hf
  replace hf := rk_bd hf
  obtain ⟨I21, e143, hf⟩ := hf
  replace hf := rk_bd hf
  obtain ⟨J21, e144, hf⟩ := hf
  replace hf := rk_bd hf
  obtain ⟨R41, e145, hf⟩ := hf
  refine AW_nwI (N := 24) dX10_init_167 kA_int (by decide) (by decide) (by decide) (by decide) e142 e143 e144 e145 ?_
  replace hf := rk_bd hf
  obtain ⟨_, e146, hf⟩ := hf
  have e146 := rk_ck_sp e146
  replace hf := rk_bd hf
  obtain ⟨R42, e147, hf⟩ := hf
  refine AW_puAF dX10_init_169 kf_X10_74 rfl e146 (by decide) rfl rfl e147 ?_
  refine AW_aload_n0 dX10_init_172 ?_
  refine AW_iconst (v := 4) dX10_init_173 (by decide) ?_
  replace hf := rk_bd hf
  obtain ⟨S22, e149, hf⟩ := hf
  replace hf := rk_bd hf
  obtain ⟨I22, e150, hf⟩ := hf
  replace hf := rk_bd hf
  obtain ⟨J22, e151, hf⟩ := hf
  replace hf := rk_bd hf
  obtain ⟨R43, e152, hf⟩ := hf
  refine AW_nwZ (N := 4) dX10_init_174 kA_bool (by decide) (by decide) (by decide) (by decide) e149 e150 e151 e152 ?_
  replace hf := rk_bd hf
  obtain ⟨_, e153, hf⟩ := hf
  have e153 := rk_ck_sp e153
  replace hf := rk_bd hf
  obtain ⟨R44, e154, hf⟩ := hf
  refine AW_puAF dX10_init_176 kf_X10_77 rfl e153 (by decide) rfl rfl e154 ?_
  refine AW_aload_n0 dX10_init_179 ?_
  refine AW_iconst (v := 4) dX10_init_180 (by decide) ?_
  replace hf := rk_bd hf
  obtain ⟨S23, e156, hf⟩ := hf
  replace hf := rk_bd hf
  obtain ⟨I23, e157, hf⟩ := hf
  replace hf := rk_bd hf
  obtain ⟨J23, e158, hf⟩ := hf
  replace hf := rk_bd hf
  obtain ⟨R45, e159, hf⟩ := hf
  refine AW_nwI (N := 4) dX10_init_181 kA_int (by decide) (by decide) (by decide) (by decide) e156 e157 e158 e159 ?_
  replace hf := rk_bd hf
  obtain ⟨_, e160, hf⟩ := hf
  have e160 := rk_ck_sp e160
  replace hf := rk_bd hf
  obtain ⟨R46, e161, hf⟩ := hf
  refine AW_puAF dX10_init_183 kf_X10_81 rfl e160 (by decide) rfl rfl e161 ?_
  refine AW_aload_n0 dX10_init_186 ?_
  refine AW_iconst (v := 4) dX10_init_187 (by decide) ?_
  replace hf := rk_bd hf
  obtain ⟨S24, e163, hf⟩ := hf
  replace hf := rk_bd hf
  obtain ⟨I24, e164, hf⟩ := hf
  replace hf := rk_bd hf
  obtain ⟨J24, e165, hf⟩ := hf
  replace hf := rk_bd hf
  obtain ⟨R47, e166, hf⟩ := hf
  refine AW_nwI (N := 4) dX10_init_188 kA_int (by decide) (by decide) (by decide) (by decide) e163 e164 e165 e166 ?_
  replace hf := rk_bd hf
  obtain ⟨_, e167, hf⟩ := hf
  have e167 := rk_ck_sp e167
  replace hf := rk_bd hf
  obtain ⟨R48, e168, hf⟩ := hf
  refine AW_puAF dX10_init_190 kf_X10_84 rfl e167 (by decide) rfl rfl e168 ?_
  refine AW_aload_n0 dX10_init_193 ?_
  refine AW_sipush (v := 160) dX10_init_194 (by decide) ?_
  replace hf := rk_bd hf
  obtain ⟨S25, e170, hf⟩ := hf
  replace hf := rk_bd hf
  obtain ⟨I25, e171, hf⟩ := hf
  replace hf := rk_bd hf
  obtain ⟨J25, e172, hf⟩ := hf
  replace hf := rk_bd hf
  obtain ⟨R49, e173, hf⟩ := hf
  refine AW_nwI (N := 160) dX10_init_197 kA_int (by decide) (by decide) (by decide) (by decide) e170 e171 e172 e173 ?_
  replace hf := rk_bd hf
  obtain ⟨_, e174, hf⟩ := hf
  have e174 := rk_ck_sp e174
  replace hf := rk_bd hf
  obtain ⟨R50, e175, hf⟩ := hf
  refine AW_puAF dX10_init_199 kf_X10_87 rfl e174 (by decide) rfl rfl e175 ?_
  refine AW_aload_n0 dX10_init_202 ?_
  refine AW_iconst (v := 0) dX10_init_203 (by decide) ?_
  refine AW_ldc2 dX10_init_204 kv_X10_90 ?_
  replace hf := rk_bd hf
  obtain ⟨_, e176, hf⟩ := hf
  have e176 := rk_layM_sp e176
  replace hf := rk_bd hf
  obtain ⟨I26, e177, hf⟩ := hf
  refine AW_iV2vz (w_X10_spell (d := 0) e176 e177) dX10_init_207 kl_X10_92 e174 rfl (Nat.le_trans (by decide) hd) (by decide) (Nat.le_of_ble_eq_true rfl) (fun _ => ?_)
  refine AW_aload_n0 dX10_init_210 ?_
  refine AW_bipush (v := 8) dX10_init_211 (by decide) ?_
  refine AW_ldc2 dX10_init_213 kv_X10_96 ?_
  replace hf := rk_bd hf
  obtain ⟨I27, e178, hf⟩ := hf
  refine AW_iV2vz (w_X10_spell (d := 0) e176 e178) dX10_init_216 kl_X10_92 e174 rfl (Nat.le_trans (by decide) hd) (by decide) (Nat.le_of_ble_eq_true rfl) (fun _ => ?_)
  refine AW_aload_n0 dX10_init_219 ?_
  refine AW_bipush (v := 16) dX10_init_220 (by decide) ?_
  refine AW_ldc2 dX10_init_222 kv_X10_98 ?_
  replace hf := rk_bd hf
  obtain ⟨I28, e179, hf⟩ := hf
  refine AW_iV2vz (w_X10_spell (d := 0) e176 e179) dX10_init_225 kl_X10_92 e174 rfl (Nat.le_trans (by decide) hd) (by decide) (Nat.le_of_ble_eq_true rfl) (fun _ => ?_)
  refine AW_aload_n0 dX10_init_228 ?_
  refine AW_bipush (v := 24) dX10_init_229 (by decide) ?_
  refine AW_ldc2 dX10_init_231 kv_X10_100 ?_
  replace hf := rk_bd hf
  obtain ⟨I29, e180, hf⟩ := hf
  refine AW_iV2vz (w_X10_spell (d := 0) e176 e180) dX10_init_234 kl_X10_92 e174 rfl (Nat.le_trans (by decide) hd) (by decide) (Nat.le_of_ble_eq_true rfl) (fun _ => ?_)
  refine AW_aload_n0 dX10_init_237 ?_
  refine AW_bipush (v := 32) dX10_init_238 (by decide) ?_
  refine AW_ldc2 dX10_init_240 kv_X10_102 ?_
  replace hf := rk_bd hf
  obtain ⟨I30, e181, hf⟩ := hf
  refine AW_iV2vz (w_X10_spell (d := 0) e176 e181) dX10_init_243 kl_X10_92 e174 rfl (Nat.le_trans (by decide) hd) (by decide) (Nat.le_of_ble_eq_true rfl) (fun _ => ?_)
  refine AW_aload_n0 dX10_init_246 ?_
  refine AW_bipush (v := 40) dX10_init_247 (by decide) ?_
  refine AW_ldc2 dX10_init_249 kv_X10_104 ?_
  replace hf := rk_bd hf
  obtain ⟨I31, e182, hf⟩ := hf
  refine AW_iV2vz (w_X10_spell (d := 0) e176 e182) dX10_init_252 kl_X10_92 e174 rfl (Nat.le_trans (by decide) hd) (by decide) (Nat.le_of_ble_eq_true rfl) (fun _ => ?_)
  refine AW_aload_n0 dX10_init_255 ?_
  replace hf := rk_bd hf
  obtain ⟨_, e183, hf⟩ := hf
  have e183 := rk_ckR_sp e183
  refine AW_getR dX10_init_256 kf_X10_17 rfl e174 (by decide) e183 ?_
  refine AW_iconst (v := 0) dX10_init_259 (by decide) ?_
  refine AW_bipush (v := 48) dX10_init_260 (by decide) ?_
  replace hf := rk_bd hf
  obtain ⟨_, e184, hf⟩ := hf
  have e184 := rk_ck_sp e184
  replace hf := rk_bd hf
  obtain ⟨I32, e185, hf⟩ := hf
  refine AW_wr dX10_init_262 e184 e185 ?_
  refine AW_aload_n0 dX10_init_263 ?_
  refine AW_iconst (v := 1) dX10_init_264 (by decide) ?_
  replace hf := rk_bd hf
  obtain ⟨I33, e186, hf⟩ := hf
  refine AW_puI dX10_init_265 kf_X10_106 rfl e174 (by decide) e186 ?_
  exact AW_vret dX10_init_268 rfl (hq _ _ _ _ (Option.some.inj hf).symm)
theorem w_X10_init {G : rk_G} {l : Launch} {d : Nat} {S : rk_Sh} {I : rk_I} {J : rk_J} {R : rk_R}  {S8 : rk_Sh} {I8 : rk_I} {J8 : rk_J} {R8 : rk_R} (hd : 1 ≤ d) (hf : f_X10_init S I J R = some (S8, I8, J8, R8)) :
    CW G l yX10_init cX10_init 1 none d 25 1638 [.ref 31] 32 S I J R (rk_qv 57 S8 I8 J8 R8 True) :=
  CW.of (by decide +kernel) (Nat.le_of_ble_eq_true rfl) (rk_sbs rk_sb0) (b_X10_init hd hf (fun S9 I9 J9 R9 h9 => by cases h9; exact ⟨rfl, rfl, rfl, rfl, rfl, rfl, trivial⟩))
