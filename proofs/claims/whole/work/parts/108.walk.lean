noncomputable def f_X2_init (S : rk_Sh) (I : rk_I) (J : rk_J) (R : rk_R)  : Option (rk_Sh × rk_I × rk_J × rk_R) :=
(some (rk_sh S 5 20 160)).bind fun S1 =>
(some (rk_zi I 5)).bind fun I1 =>
(some (rk_zj J 5)).bind fun J1 =>
(some (rk_zr R 5)).bind fun R1 =>
(rk_ck S1 4 2 10).bind fun _ =>
(some (rk_ur R1 4 0 (some 5))).bind fun R2 =>
(some (rk_sh S1 6 20 161)).bind fun S2 =>
(some (rk_zi I1 6)).bind fun I2 =>
(some (rk_zj J1 6)).bind fun J2 =>
(some (rk_zr R2 6)).bind fun R3 =>
(rk_ck S2 4 2 10).bind fun _ =>
(some (rk_ur R3 4 2 (some 6))).bind fun R4 =>
(some (rk_sh S2 7 20 161)).bind fun S3 =>
(some (rk_zi I2 7)).bind fun I3 =>
(some (rk_zj J2 7)).bind fun J3 =>
(some (rk_zr R4 7)).bind fun R5 =>
(rk_ck S3 4 2 10).bind fun _ =>
(some (rk_ur R5 4 3 (some 7))).bind fun R6 =>
(some (rk_sh S3 8 20 160)).bind fun S4 =>
(some (rk_zi I3 8)).bind fun I4 =>
(some (rk_zj J3 8)).bind fun J4 =>
(some (rk_zr R6 8)).bind fun R7 =>
(rk_ck S4 4 2 10).bind fun _ =>
(some (rk_ur R7 4 7 (some 8))).bind fun R8 =>
(some (rk_sh S4 9 20 3)).bind fun S5 =>
(some (rk_zi I4 9)).bind fun I5 =>
(some (rk_zj J4 9)).bind fun J5 =>
(some (rk_zr R8 9)).bind fun R9 =>
(rk_ck S5 4 2 10).bind fun _ =>
(some (rk_ur R9 4 9 (some 9))).bind fun R10 =>
some (S5, I5, J5, R10)
theorem b_X2_init {G : rk_G} {l : Launch} {d : Nat} {S : rk_Sh} {I : rk_I} {J : rk_J} {R : rk_R} {Q : rk_Q}  {r : rk_Sh × rk_I × rk_J × rk_R} (hd : 1 ≤ d) (hf : f_X2_init S I J R = some r) (hq : ∀ (S9 : rk_Sh) (I9 : rk_I) (J9 : rk_J) (R9 : rk_R), r = (S9, I9, J9, R9) → Q (none) 10 S9 I9 J9 R9) :
    AW G l yX2_init cX2_init 1 none d 5 645 0 [some (.ref 4)] [] 5 S I J R Q := by
  unfold f_X2_init at hf
  refine AW_aload_n0 dX2_init_0 ?_
  refine AW_objInit dX2_init_1 ko_X2_3 (Nat.le_trans (by decide) hd) (Nat.le_of_ble_eq_true rfl) ?_
  refine AW_aload_n0 dX2_init_4 ?_
  refine AW_sipush (v := 160) dX2_init_5 (by decide) ?_
  replace hf := rk_bd hf
  obtain ⟨S1, e2, hf⟩ := hf
  replace hf := rk_bd hf
  obtain ⟨I1, e3, hf⟩ := hf
  replace hf := rk_bd hf
  obtain ⟨J1, e4, hf⟩ := hf
  replace hf := rk_bd hf
  obtain ⟨R1, e5, hf⟩ := hf
  refine AW_nwI (N := 160) dX2_init_8 kA_int (by decide) (by decide) (by decide) (by decide) e2 e3 e4 e5 ?_
  replace hf := rk_bd hf
  obtain ⟨_, e6, hf⟩ := hf
  have e6 := rk_ck_sp e6
  replace hf := rk_bd hf
  obtain ⟨R2, e7, hf⟩ := hf
  refine AW_puAF dX2_init_10 kf_X2_11 rfl e6 (by decide) rfl rfl e7 ?_
  refine AW_aload_n0 dX2_init_13 ?_
  refine AW_sipush (v := 161) dX2_init_14 (by decide) ?_
  replace hf := rk_bd hf
  obtain ⟨S2, e9, hf⟩ := hf
  replace hf := rk_bd hf
  obtain ⟨I2, e10, hf⟩ := hf
  replace hf := rk_bd hf
  obtain ⟨J2, e11, hf⟩ := hf
  replace hf := rk_bd hf
  obtain ⟨R3, e12, hf⟩ := hf
  refine AW_nwI (N := 161) dX2_init_17 kA_int (by decide) (by decide) (by decide) (by decide) e9 e10 e11 e12 ?_
  replace hf := rk_bd hf
  obtain ⟨_, e13, hf⟩ := hf
  have e13 := rk_ck_sp e13
  replace hf := rk_bd hf
  obtain ⟨R4, e14, hf⟩ := hf
  refine AW_puAF dX2_init_19 kf_X2_15 rfl e13 (by decide) rfl rfl e14 ?_
  refine AW_aload_n0 dX2_init_22 ?_
  refine AW_sipush (v := 161) dX2_init_23 (by decide) ?_
  replace hf := rk_bd hf
  obtain ⟨S3, e16, hf⟩ := hf
  replace hf := rk_bd hf
  obtain ⟨I3, e17, hf⟩ := hf
  replace hf := rk_bd hf
  obtain ⟨J3, e18, hf⟩ := hf
  replace hf := rk_bd hf
  obtain ⟨R5, e19, hf⟩ := hf
  refine AW_nwI (N := 161) dX2_init_26 kA_int (by decide) (by decide) (by decide) (by decide) e16 e17 e18 e19 ?_
  replace hf := rk_bd hf
  obtain ⟨_, e20, hf⟩ := hf
  have e20 := rk_ck_sp e20
  replace hf := rk_bd hf
  obtain ⟨R6, e21, hf⟩ := hf
  refine AW_puAF dX2_init_28 kf_X2_18 rfl e20 (by decide) rfl rfl e21 ?_
  refine AW_aload_n0 dX2_init_31 ?_
  refine AW_sipush (v := 160) dX2_init_32 (by decide) ?_
  replace hf := rk_bd hf
  obtain ⟨S4, e23, hf⟩ := hf
  replace hf := rk_bd hf
  obtain ⟨I4, e24, hf⟩ := hf
  replace hf := rk_bd hf
  obtain ⟨J4, e25, hf⟩ := hf
  replace hf := rk_bd hf
  obtain ⟨R7, e26, hf⟩ := hf
  refine AW_nwI (N := 160) dX2_init_35 kA_int (by decide) (by decide) (by decide) (by decide) e23 e24 e25 e26 ?_
  replace hf := rk_bd hf
  obtain ⟨_, e27, hf⟩ := hf
  have e27 := rk_ck_sp e27
  replace hf := rk_bd hf
  obtain ⟨R8, e28, hf⟩ := hf
  refine AW_puAF dX2_init_37 kf_X2_21 rfl e27 (by decide) rfl rfl e28 ?_
  refine AW_aload_n0 dX2_init_40 ?_
  refine AW_iconst (v := 3) dX2_init_41 (by decide) ?_
  replace hf := rk_bd hf
  obtain ⟨S5, e30, hf⟩ := hf
  replace hf := rk_bd hf
  obtain ⟨I5, e31, hf⟩ := hf
  replace hf := rk_bd hf
  obtain ⟨J5, e32, hf⟩ := hf
  replace hf := rk_bd hf
  obtain ⟨R9, e33, hf⟩ := hf
  refine AW_nwI (N := 3) dX2_init_42 kA_int (by decide) (by decide) (by decide) (by decide) e30 e31 e32 e33 ?_
  replace hf := rk_bd hf
  obtain ⟨_, e34, hf⟩ := hf
  have e34 := rk_ck_sp e34
  replace hf := rk_bd hf
  obtain ⟨R10, e35, hf⟩ := hf
  refine AW_puAF dX2_init_44 kf_X2_24 rfl e34 (by decide) rfl rfl e35 ?_
  exact AW_vret dX2_init_47 rfl (hq _ _ _ _ (Option.some.inj hf).symm)
theorem w_X2_init {G : rk_G} {l : Launch} {d : Nat} {S : rk_Sh} {I : rk_I} {J : rk_J} {R : rk_R}  {S8 : rk_Sh} {I8 : rk_I} {J8 : rk_J} {R8 : rk_R} (hd : 1 ≤ d) (hf : f_X2_init S I J R = some (S8, I8, J8, R8)) :
    CW G l yX2_init cX2_init 1 none d 5 645 [.ref 4] 5 S I J R (rk_qv 10 S8 I8 J8 R8 True) :=
  CW.of (by decide +kernel) (Nat.le_of_ble_eq_true rfl) (rk_sbs rk_sb0) (b_X2_init hd hf (fun S9 I9 J9 R9 h9 => by cases h9; exact ⟨rfl, rfl, rfl, rfl, rfl, rfl, trivial⟩))
noncomputable def f_X3_init (S : rk_Sh) (I : rk_I) (J : rk_J) (R : rk_R)  : Option (rk_Sh × rk_I × rk_J × rk_R) :=
(some (rk_sh S 11 20 160)).bind fun S1 =>
(some (rk_zi I 11)).bind fun I1 =>
(some (rk_zj J 11)).bind fun J1 =>
(some (rk_zr R 11)).bind fun R1 =>
(rk_ck S1 10 3 2).bind fun _ =>
(some (rk_ur R1 10 0 (some 11))).bind fun R2 =>
some (S1, I1, J1, R2)
theorem b_X3_init {G : rk_G} {l : Launch} {d : Nat} {S : rk_Sh} {I : rk_I} {J : rk_J} {R : rk_R} {Q : rk_Q}  {r : rk_Sh × rk_I × rk_J × rk_R} (hd : 1 ≤ d) (hf : f_X3_init S I J R = some r) (hq : ∀ (S9 : rk_Sh) (I9 : rk_I) (J9 : rk_J) (R9 : rk_R), r = (S9, I9, J9, R9) → Q (none) 12 S9 I9 J9 R9) :
    AW G l yX3_init cX3_init 1 none d 1 160 0 [some (.ref 10)] [] 11 S I J R Q := by
  unfold f_X3_init at hf
  refine AW_aload_n0 dX3_init_0 ?_
  refine AW_objInit dX3_init_1 ko_X3_1 (Nat.le_trans (by decide) hd) (Nat.le_of_ble_eq_true rfl) ?_
  refine AW_aload_n0 dX3_init_4 ?_
  refine AW_sipush (v := 160) dX3_init_5 (by decide) ?_
  replace hf := rk_bd hf
  obtain ⟨S1, e2, hf⟩ := hf
  replace hf := rk_bd hf
  obtain ⟨I1, e3, hf⟩ := hf
  replace hf := rk_bd hf
  obtain ⟨J1, e4, hf⟩ := hf
  replace hf := rk_bd hf
  obtain ⟨R1, e5, hf⟩ := hf
  refine AW_nwI (N := 160) dX3_init_8 kA_int (by decide) (by decide) (by decide) (by decide) e2 e3 e4 e5 ?_
  replace hf := rk_bd hf
  obtain ⟨_, e6, hf⟩ := hf
  have e6 := rk_ck_sp e6
  replace hf := rk_bd hf
  obtain ⟨R2, e7, hf⟩ := hf
  refine AW_puAF dX3_init_10 kf_X3_9 rfl e6 (by decide) rfl rfl e7 ?_
  exact AW_vret dX3_init_13 rfl (hq _ _ _ _ (Option.some.inj hf).symm)
theorem w_X3_init {G : rk_G} {l : Launch} {d : Nat} {S : rk_Sh} {I : rk_I} {J : rk_J} {R : rk_R}  {S8 : rk_Sh} {I8 : rk_I} {J8 : rk_J} {R8 : rk_R} (hd : 1 ≤ d) (hf : f_X3_init S I J R = some (S8, I8, J8, R8)) :
    CW G l yX3_init cX3_init 1 none d 1 160 [.ref 10] 11 S I J R (rk_qv 12 S8 I8 J8 R8 True) :=
  CW.of (by decide +kernel) (Nat.le_of_ble_eq_true rfl) (rk_sbs rk_sb0) (b_X3_init hd hf (fun S9 I9 J9 R9 h9 => by cases h9; exact ⟨rfl, rfl, rfl, rfl, rfl, rfl, trivial⟩))
noncomputable def f_X1_init (S : rk_Sh) (I : rk_I) (J : rk_J) (R : rk_R)  : Option (rk_Sh × rk_I × rk_J × rk_R) :=
(some (rk_sh S 13 20 10)).bind fun S1 =>
(some (rk_zi I 13)).bind fun I1 =>
(some (rk_zj J 13)).bind fun J1 =>
(some (rk_zr R 13)).bind fun R1 =>
(rk_ck S1 12 1 5).bind fun _ =>
(some (rk_ur R1 12 0 (some 13))).bind fun R2 =>
(some (rk_sh S1 14 23 24)).bind fun S2 =>
(some (rk_zi I1 14)).bind fun I2 =>
(some (rk_zj J1 14)).bind fun J2 =>
(some (rk_zr R2 14)).bind fun R3 =>
(rk_ck S2 12 1 5).bind fun _ =>
(some (rk_ur R3 12 1 (some 14))).bind fun R4 =>
(some (rk_sh S2 15 20 24)).bind fun S3 =>
(some (rk_zi I2 15)).bind fun I3 =>
(some (rk_zj J2 15)).bind fun J3 =>
(some (rk_zr R4 15)).bind fun R5 =>
(rk_ck S3 12 1 5).bind fun _ =>
(some (rk_ur R5 12 2 (some 15))).bind fun R6 =>
some (S3, I3, J3, R6)
theorem b_X1_init {G : rk_G} {l : Launch} {d : Nat} {S : rk_Sh} {I : rk_I} {J : rk_J} {R : rk_R} {Q : rk_Q}  {r : rk_Sh × rk_I × rk_J × rk_R} (hd : 1 ≤ d) (hf : f_X1_init S I J R = some r) (hq : ∀ (S9 : rk_Sh) (I9 : rk_I) (J9 : rk_J) (R9 : rk_R), r = (S9, I9, J9, R9) → Q (none) 16 S9 I9 J9 R9) :
    AW G l yX1_init cX1_init 1 none d 3 58 0 [some (.ref 12)] [] 13 S I J R Q := by
  unfold f_X1_init at hf
  refine AW_aload_n0 dX1_init_0 ?_
  refine AW_objInit dX1_init_1 ko_X1_3 (Nat.le_trans (by decide) hd) (Nat.le_of_ble_eq_true rfl) ?_
  refine AW_aload_n0 dX1_init_4 ?_
  refine AW_bipush (v := 10) dX1_init_5 (by decide) ?_
  replace hf := rk_bd hf
  obtain ⟨S1, e2, hf⟩ := hf
  replace hf := rk_bd hf
  obtain ⟨I1, e3, hf⟩ := hf
  replace hf := rk_bd hf
  obtain ⟨J1, e4, hf⟩ := hf
  replace hf := rk_bd hf
  obtain ⟨R1, e5, hf⟩ := hf
  refine AW_nwI (N := 10) dX1_init_7 kA_int (by decide) (by decide) (by decide) (by decide) e2 e3 e4 e5 ?_
  replace hf := rk_bd hf
  obtain ⟨_, e6, hf⟩ := hf
  have e6 := rk_ck_sp e6
  replace hf := rk_bd hf
  obtain ⟨R2, e7, hf⟩ := hf
  refine AW_puAF dX1_init_9 kf_X1_9 rfl e6 (by decide) rfl rfl e7 ?_
  refine AW_aload_n0 dX1_init_12 ?_
  refine AW_bipush (v := 24) dX1_init_13 (by decide) ?_
  replace hf := rk_bd hf
  obtain ⟨S2, e9, hf⟩ := hf
  replace hf := rk_bd hf
  obtain ⟨I2, e10, hf⟩ := hf
  replace hf := rk_bd hf
  obtain ⟨J2, e11, hf⟩ := hf
  replace hf := rk_bd hf
  obtain ⟨R3, e12, hf⟩ := hf
  refine AW_nwQ (N := 24) dX1_init_15 (Or.inr (Or.inl rfl)) kw_X1_15 (by decide) (by decide) (by decide) (by decide) e9 e10 e11 e12 ?_
  replace hf := rk_bd hf
  obtain ⟨_, e13, hf⟩ := hf
  have e13 := rk_ck_sp e13
  replace hf := rk_bd hf
  obtain ⟨R4, e14, hf⟩ := hf
  refine AW_puAF dX1_init_18 kf_X1_17 rfl e13 (by decide) rfl rfl e14 ?_
  refine AW_aload_n0 dX1_init_21 ?_
  refine AW_bipush (v := 24) dX1_init_22 (by decide) ?_
  replace hf := rk_bd hf
  obtain ⟨S3, e16, hf⟩ := hf
  replace hf := rk_bd hf
  obtain ⟨I3, e17, hf⟩ := hf
  replace hf := rk_bd hf
  obtain ⟨J3, e18, hf⟩ := hf
  replace hf := rk_bd hf
  obtain ⟨R5, e19, hf⟩ := hf
  refine AW_nwI (N := 24) dX1_init_24 kA_int (by decide) (by decide) (by decide) (by decide) e16 e17 e18 e19 ?_
  replace hf := rk_bd hf
  obtain ⟨_, e20, hf⟩ := hf
  have e20 := rk_ck_sp e20
  replace hf := rk_bd hf
  obtain ⟨R6, e21, hf⟩ := hf
  refine AW_puAF dX1_init_26 kf_X1_21 rfl e20 (by decide) rfl rfl e21 ?_
  exact AW_vret dX1_init_29 rfl (hq _ _ _ _ (Option.some.inj hf).symm)
theorem w_X1_init {G : rk_G} {l : Launch} {d : Nat} {S : rk_Sh} {I : rk_I} {J : rk_J} {R : rk_R}  {S8 : rk_Sh} {I8 : rk_I} {J8 : rk_J} {R8 : rk_R} (hd : 1 ≤ d) (hf : f_X1_init S I J R = some (S8, I8, J8, R8)) :
    CW G l yX1_init cX1_init 1 none d 3 58 [.ref 12] 13 S I J R (rk_qv 16 S8 I8 J8 R8 True) :=
  CW.of (by decide +kernel) (Nat.le_of_ble_eq_true rfl) (rk_sbs rk_sb0) (b_X1_init hd hf (fun S9 I9 J9 R9 h9 => by cases h9; exact ⟨rfl, rfl, rfl, rfl, rfl, rfl, trivial⟩))
noncomputable def f_X4_init (S : rk_Sh) (I : rk_I) (J : rk_J) (R : rk_R)  : Option (rk_Sh × rk_I × rk_J × rk_R) :=
(some (rk_sh S 17 20 10)).bind fun S1 =>
(some (rk_zi I 17)).bind fun I1 =>
(some (rk_zj J 17)).bind fun J1 =>
(some (rk_zr R 17)).bind fun R1 =>
(rk_ck S1 16 4 4).bind fun _ =>
(some (rk_ur R1 16 0 (some 17))).bind fun R2 =>
some (S1, I1, J1, R2)
theorem b_X4_init {G : rk_G} {l : Launch} {d : Nat} {S : rk_Sh} {I : rk_I} {J : rk_J} {R : rk_R} {Q : rk_Q}  {r : rk_Sh × rk_I × rk_J × rk_R} (hd : 1 ≤ d) (hf : f_X4_init S I J R = some r) (hq : ∀ (S9 : rk_Sh) (I9 : rk_I) (J9 : rk_J) (R9 : rk_R), r = (S9, I9, J9, R9) → Q (none) 18 S9 I9 J9 R9) :
    AW G l yX4_init cX4_init 1 none d 1 10 0 [some (.ref 16)] [] 17 S I J R Q := by
  unfold f_X4_init at hf
  refine AW_aload_n0 dX4_init_0 ?_
  refine AW_objInit dX4_init_1 ko_X4_3 (Nat.le_trans (by decide) hd) (Nat.le_of_ble_eq_true rfl) ?_
  refine AW_aload_n0 dX4_init_4 ?_
  refine AW_bipush (v := 10) dX4_init_5 (by decide) ?_
  replace hf := rk_bd hf
  obtain ⟨S1, e2, hf⟩ := hf
  replace hf := rk_bd hf
  obtain ⟨I1, e3, hf⟩ := hf
  replace hf := rk_bd hf
  obtain ⟨J1, e4, hf⟩ := hf
  replace hf := rk_bd hf
  obtain ⟨R1, e5, hf⟩ := hf
  refine AW_nwI (N := 10) dX4_init_7 kA_int (by decide) (by decide) (by decide) (by decide) e2 e3 e4 e5 ?_
  replace hf := rk_bd hf
  obtain ⟨_, e6, hf⟩ := hf
  have e6 := rk_ck_sp e6
  replace hf := rk_bd hf
  obtain ⟨R2, e7, hf⟩ := hf
  refine AW_puAF dX4_init_9 kf_X4_9 rfl e6 (by decide) rfl rfl e7 ?_
  exact AW_vret dX4_init_12 rfl (hq _ _ _ _ (Option.some.inj hf).symm)
theorem w_X4_init {G : rk_G} {l : Launch} {d : Nat} {S : rk_Sh} {I : rk_I} {J : rk_J} {R : rk_R}  {S8 : rk_Sh} {I8 : rk_I} {J8 : rk_J} {R8 : rk_R} (hd : 1 ≤ d) (hf : f_X4_init S I J R = some (S8, I8, J8, R8)) :
    CW G l yX4_init cX4_init 1 none d 1 10 [.ref 16] 17 S I J R (rk_qv 18 S8 I8 J8 R8 True) :=
  CW.of (by decide +kernel) (Nat.le_of_ble_eq_true rfl) (rk_sbs rk_sb0) (b_X4_init hd hf (fun S9 I9 J9 R9 h9 => by cases h9; exact ⟨rfl, rfl, rfl, rfl, rfl, rfl, trivial⟩))
noncomputable def f_X6_init_20 (S : rk_Sh) (I : rk_I) (J : rk_J) (R : rk_R)  : Option (rk_Sh × rk_I × rk_J × rk_R) :=
(some (rk_sh S 21 20 40)).bind fun S1 =>
(some (rk_zi I 21)).bind fun I1 =>
(some (rk_zj J 21)).bind fun J1 =>
(some (rk_zr R 21)).bind fun R1 =>
(rk_ck S1 20 6 3).bind fun _ =>
(some (rk_ur R1 20 0 (some 21))).bind fun R2 =>
(some (rk_ui I1 20 1 (-1))).bind fun I2 =>
some (S1, I2, J1, R2)
theorem b_X6_init_20 {G : rk_G} {l : Launch} {d : Nat} {S : rk_Sh} {I : rk_I} {J : rk_J} {R : rk_R} {Q : rk_Q}  {r : rk_Sh × rk_I × rk_J × rk_R} (hd : 1 ≤ d) (hf : f_X6_init_20 S I J R = some r) (hq : ∀ (S9 : rk_Sh) (I9 : rk_I) (J9 : rk_J) (R9 : rk_R), r = (S9, I9, J9, R9) → Q (none) 22 S9 I9 J9 R9) :
    AW G l yX6_init cX6_init 1 none d 1 40 0 [some (.ref 20)] [] 21 S I J R Q := by
  unfold f_X6_init_20 at hf
  refine AW_aload_n0 dX6_init_0 ?_
  refine AW_objInit dX6_init_1 ko_X6_3 (Nat.le_trans (by decide) hd) (Nat.le_of_ble_eq_true rfl) ?_
  refine AW_aload_n0 dX6_init_4 ?_
  refine AW_bipush (v := 40) dX6_init_5 (by decide) ?_
  replace hf := rk_bd hf
  obtain ⟨S1, e2, hf⟩ := hf
  replace hf := rk_bd hf
  obtain ⟨I1, e3, hf⟩ := hf
  replace hf := rk_bd hf
  obtain ⟨J1, e4, hf⟩ := hf
  replace hf := rk_bd hf
  obtain ⟨R1, e5, hf⟩ := hf
  refine AW_nwI (N := 40) dX6_init_7 kA_int (by decide) (by decide) (by decide) (by decide) e2 e3 e4 e5 ?_
  replace hf := rk_bd hf
  obtain ⟨_, e6, hf⟩ := hf
  have e6 := rk_ck_sp e6
  replace hf := rk_bd hf
  obtain ⟨R2, e7, hf⟩ := hf
  refine AW_puAF dX6_init_9 kf_X6_9 rfl e6 (by decide) rfl rfl e7 ?_
  refine AW_aload_n0 dX6_init_12 ?_
  refine AW_iconst (v := (-1)) dX6_init_13 (by decide) ?_
  replace hf := rk_bd hf
  obtain ⟨I2, e8, hf⟩ := hf
  refine AW_puI dX6_init_14 kf_X6_15 rfl e6 (by decide) e8 ?_
  exact AW_vret dX6_init_17 rfl (hq _ _ _ _ (Option.some.inj hf).symm)
theorem w_X6_init_20 {G : rk_G} {l : Launch} {d : Nat} {S : rk_Sh} {I : rk_I} {J : rk_J} {R : rk_R}  {S8 : rk_Sh} {I8 : rk_I} {J8 : rk_J} {R8 : rk_R} (hd : 1 ≤ d) (hf : f_X6_init_20 S I J R = some (S8, I8, J8, R8)) :
    CW G l yX6_init cX6_init 1 none d 1 40 [.ref 20] 21 S I J R (rk_qv 22 S8 I8 J8 R8 True) :=
  CW.of (by decide +kernel) (Nat.le_of_ble_eq_true rfl) (rk_sbs rk_sb0) (b_X6_init_20 hd hf (fun S9 I9 J9 R9 h9 => by cases h9; exact ⟨rfl, rfl, rfl, rfl, rfl, rfl, trivial⟩))
noncomputable def f_X6_init_22 (S : rk_Sh) (I : rk_I) (J : rk_J) (R : rk_R)  : Option (rk_Sh × rk_I × rk_J × rk_R) :=
(some (rk_sh S 23 20 40)).bind fun S1 =>
(some (rk_zi I 23)).bind fun I1 =>
(some (rk_zj J 23)).bind fun J1 =>
(some (rk_zr R 23)).bind fun R1 =>
(rk_ck S1 22 6 3).bind fun _ =>
(some (rk_ur R1 22 0 (some 23))).bind fun R2 =>
(some (rk_ui I1 22 1 (-1))).bind fun I2 =>
some (S1, I2, J1, R2)
theorem b_X6_init_22 {G : rk_G} {l : Launch} {d : Nat} {S : rk_Sh} {I : rk_I} {J : rk_J} {R : rk_R} {Q : rk_Q}  {r : rk_Sh × rk_I × rk_J × rk_R} (hd : 1 ≤ d) (hf : f_X6_init_22 S I J R = some r) (hq : ∀ (S9 : rk_Sh) (I9 : rk_I) (J9 : rk_J) (R9 : rk_R), r = (S9, I9, J9, R9) → Q (none) 24 S9 I9 J9 R9) :
    AW G l yX6_init cX6_init 1 none d 1 40 0 [some (.ref 22)] [] 23 S I J R Q := by
  unfold f_X6_init_22 at hf
  refine AW_aload_n0 dX6_init_0 ?_
  refine AW_objInit dX6_init_1 ko_X6_3 (Nat.le_trans (by decide) hd) (Nat.le_of_ble_eq_true rfl) ?_
  refine AW_aload_n0 dX6_init_4 ?_
  refine AW_bipush (v := 40) dX6_init_5 (by decide) ?_
  replace hf := rk_bd hf
  obtain ⟨S1, e2, hf⟩ := hf
  replace hf := rk_bd hf
  obtain ⟨I1, e3, hf⟩ := hf
  replace hf := rk_bd hf
  obtain ⟨J1, e4, hf⟩ := hf
  replace hf := rk_bd hf
  obtain ⟨R1, e5, hf⟩ := hf
  refine AW_nwI (N := 40) dX6_init_7 kA_int (by decide) (by decide) (by decide) (by decide) e2 e3 e4 e5 ?_
  replace hf := rk_bd hf
  obtain ⟨_, e6, hf⟩ := hf
  have e6 := rk_ck_sp e6
  replace hf := rk_bd hf
  obtain ⟨R2, e7, hf⟩ := hf
  refine AW_puAF dX6_init_9 kf_X6_9 rfl e6 (by decide) rfl rfl e7 ?_
  refine AW_aload_n0 dX6_init_12 ?_
  refine AW_iconst (v := (-1)) dX6_init_13 (by decide) ?_
  replace hf := rk_bd hf
  obtain ⟨I2, e8, hf⟩ := hf
  refine AW_puI dX6_init_14 kf_X6_15 rfl e6 (by decide) e8 ?_
  exact AW_vret dX6_init_17 rfl (hq _ _ _ _ (Option.some.inj hf).symm)
theorem w_X6_init_22 {G : rk_G} {l : Launch} {d : Nat} {S : rk_Sh} {I : rk_I} {J : rk_J} {R : rk_R}  {S8 : rk_Sh} {I8 : rk_I} {J8 : rk_J} {R8 : rk_R} (hd : 1 ≤ d) (hf : f_X6_init_22 S I J R = some (S8, I8, J8, R8)) :
    CW G l yX6_init cX6_init 1 none d 1 40 [.ref 22] 23 S I J R (rk_qv 24 S8 I8 J8 R8 True) :=
  CW.of (by decide +kernel) (Nat.le_of_ble_eq_true rfl) (rk_sbs rk_sb0) (b_X6_init_22 hd hf (fun S9 I9 J9 R9 h9 => by cases h9; exact ⟨rfl, rfl, rfl, rfl, rfl, rfl, trivial⟩))
noncomputable def f_X6_init_24 (S : rk_Sh) (I : rk_I) (J : rk_J) (R : rk_R)  : Option (rk_Sh × rk_I × rk_J × rk_R) :=
(some (rk_sh S 25 20 40)).bind fun S1 =>
(some (rk_zi I 25)).bind fun I1 =>
(some (rk_zj J 25)).bind fun J1 =>
(some (rk_zr R 25)).bind fun R1 =>
(rk_ck S1 24 6 3).bind fun _ =>
(some (rk_ur R1 24 0 (some 25))).bind fun R2 =>
(some (rk_ui I1 24 1 (-1))).bind fun I2 =>
some (S1, I2, J1, R2)
theorem b_X6_init_24 {G : rk_G} {l : Launch} {d : Nat} {S : rk_Sh} {I : rk_I} {J : rk_J} {R : rk_R} {Q : rk_Q}  {r : rk_Sh × rk_I × rk_J × rk_R} (hd : 1 ≤ d) (hf : f_X6_init_24 S I J R = some r) (hq : ∀ (S9 : rk_Sh) (I9 : rk_I) (J9 : rk_J) (R9 : rk_R), r = (S9, I9, J9, R9) → Q (none) 26 S9 I9 J9 R9) :
    AW G l yX6_init cX6_init 1 none d 1 40 0 [some (.ref 24)] [] 25 S I J R Q := by
  unfold f_X6_init_24 at hf
  refine AW_aload_n0 dX6_init_0 ?_
  refine AW_objInit dX6_init_1 ko_X6_3 (Nat.le_trans (by decide) hd) (Nat.le_of_ble_eq_true rfl) ?_
  refine AW_aload_n0 dX6_init_4 ?_
  refine AW_bipush (v := 40) dX6_init_5 (by decide) ?_
  replace hf := rk_bd hf
  obtain ⟨S1, e2, hf⟩ := hf
  replace hf := rk_bd hf
  obtain ⟨I1, e3, hf⟩ := hf
  replace hf := rk_bd hf
  obtain ⟨J1, e4, hf⟩ := hf
  replace hf := rk_bd hf
  obtain ⟨R1, e5, hf⟩ := hf
  refine AW_nwI (N := 40) dX6_init_7 kA_int (by decide) (by decide) (by decide) (by decide) e2 e3 e4 e5 ?_
  replace hf := rk_bd hf
  obtain ⟨_, e6, hf⟩ := hf
  have e6 := rk_ck_sp e6
  replace hf := rk_bd hf
  obtain ⟨R2, e7, hf⟩ := hf
  refine AW_puAF dX6_init_9 kf_X6_9 rfl e6 (by decide) rfl rfl e7 ?_
  refine AW_aload_n0 dX6_init_12 ?_
  refine AW_iconst (v := (-1)) dX6_init_13 (by decide) ?_
  replace hf := rk_bd hf
  obtain ⟨I2, e8, hf⟩ := hf
  refine AW_puI dX6_init_14 kf_X6_15 rfl e6 (by decide) e8 ?_
  exact AW_vret dX6_init_17 rfl (hq _ _ _ _ (Option.some.inj hf).symm)
theorem w_X6_init_24 {G : rk_G} {l : Launch} {d : Nat} {S : rk_Sh} {I : rk_I} {J : rk_J} {R : rk_R}  {S8 : rk_Sh} {I8 : rk_I} {J8 : rk_J} {R8 : rk_R} (hd : 1 ≤ d) (hf : f_X6_init_24 S I J R = some (S8, I8, J8, R8)) :
    CW G l yX6_init cX6_init 1 none d 1 40 [.ref 24] 25 S I J R (rk_qv 26 S8 I8 J8 R8 True) :=
  CW.of (by decide +kernel) (Nat.le_of_ble_eq_true rfl) (rk_sbs rk_sb0) (b_X6_init_24 hd hf (fun S9 I9 J9 R9 h9 => by cases h9; exact ⟨rfl, rfl, rfl, rfl, rfl, rfl, trivial⟩))
noncomputable def f_X6_init_26 (S : rk_Sh) (I : rk_I) (J : rk_J) (R : rk_R)  : Option (rk_Sh × rk_I × rk_J × rk_R) :=
(some (rk_sh S 27 20 40)).bind fun S1 =>
(some (rk_zi I 27)).bind fun I1 =>
(some (rk_zj J 27)).bind fun J1 =>
(some (rk_zr R 27)).bind fun R1 =>
(rk_ck S1 26 6 3).bind fun _ =>
(some (rk_ur R1 26 0 (some 27))).bind fun R2 =>
(some (rk_ui I1 26 1 (-1))).bind fun I2 =>
some (S1, I2, J1, R2)
theorem b_X6_init_26 {G : rk_G} {l : Launch} {d : Nat} {S : rk_Sh} {I : rk_I} {J : rk_J} {R : rk_R} {Q : rk_Q}  {r : rk_Sh × rk_I × rk_J × rk_R} (hd : 1 ≤ d) (hf : f_X6_init_26 S I J R = some r) (hq : ∀ (S9 : rk_Sh) (I9 : rk_I) (J9 : rk_J) (R9 : rk_R), r = (S9, I9, J9, R9) → Q (none) 28 S9 I9 J9 R9) :
    AW G l yX6_init cX6_init 1 none d 1 40 0 [some (.ref 26)] [] 27 S I J R Q := by
  unfold f_X6_init_26 at hf
  refine AW_aload_n0 dX6_init_0 ?_
  refine AW_objInit dX6_init_1 ko_X6_3 (Nat.le_trans (by decide) hd) (Nat.le_of_ble_eq_true rfl) ?_
  refine AW_aload_n0 dX6_init_4 ?_
  refine AW_bipush (v := 40) dX6_init_5 (by decide) ?_
  replace hf := rk_bd hf
  obtain ⟨S1, e2, hf⟩ := hf
  replace hf := rk_bd hf
  obtain ⟨I1, e3, hf⟩ := hf
  replace hf := rk_bd hf
  obtain ⟨J1, e4, hf⟩ := hf
  replace hf := rk_bd hf
  obtain ⟨R1, e5, hf⟩ := hf
  refine AW_nwI (N := 40) dX6_init_7 kA_int (by decide) (by decide) (by decide) (by decide) e2 e3 e4 e5 ?_
  replace hf := rk_bd hf
  obtain ⟨_, e6, hf⟩ := hf
  have e6 := rk_ck_sp e6
  replace hf := rk_bd hf
  obtain ⟨R2, e7, hf⟩ := hf
  refine AW_puAF dX6_init_9 kf_X6_9 rfl e6 (by decide) rfl rfl e7 ?_
  refine AW_aload_n0 dX6_init_12 ?_
  refine AW_iconst (v := (-1)) dX6_init_13 (by decide) ?_
  replace hf := rk_bd hf
  obtain ⟨I2, e8, hf⟩ := hf
  refine AW_puI dX6_init_14 kf_X6_15 rfl e6 (by decide) e8 ?_
  exact AW_vret dX6_init_17 rfl (hq _ _ _ _ (Option.some.inj hf).symm)
theorem w_X6_init_26 {G : rk_G} {l : Launch} {d : Nat} {S : rk_Sh} {I : rk_I} {J : rk_J} {R : rk_R}  {S8 : rk_Sh} {I8 : rk_I} {J8 : rk_J} {R8 : rk_R} (hd : 1 ≤ d) (hf : f_X6_init_26 S I J R = some (S8, I8, J8, R8)) :
    CW G l yX6_init cX6_init 1 none d 1 40 [.ref 26] 27 S I J R (rk_qv 28 S8 I8 J8 R8 True) :=
  CW.of (by decide +kernel) (Nat.le_of_ble_eq_true rfl) (rk_sbs rk_sb0) (b_X6_init_26 hd hf (fun S9 I9 J9 R9 h9 => by cases h9; exact ⟨rfl, rfl, rfl, rfl, rfl, rfl, trivial⟩))
