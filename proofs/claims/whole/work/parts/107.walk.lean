noncomputable def f_X2_init (S : rk_Sh) (I : rk_I) (J : rk_J) (R : rk_R)  : Option (Nat × rk_Sh × rk_I × rk_J × rk_R) :=
(some (rk_sh S 5 20 160)).bind fun S1 =>
(some (rk_zi I 5)).bind fun I1 =>
(some (rk_zj J 5)).bind fun J1 =>
(some (rk_zr R 5)).bind fun R1 =>
(rk_ck S1 4 2 10).bind fun _ =>
(some (rk_ur R1 4 0 (some 5))).bind fun R2 =>
(some (rk_sh S1 6 20 161)).bind fun S2 =>
(some (rk_zi I1 6)).bind fun I2 =>
(some (rk_zj J1 6)).bind fun J2 =>
(some (rk_zr R2 6)).bind fun R3 =>
(rk_ck S2 4 2 10).bind fun _ =>
(some (rk_ur R3 4 2 (some 6))).bind fun R4 =>
(some (rk_sh S2 7 20 161)).bind fun S3 =>
(some (rk_zi I2 7)).bind fun I3 =>
(some (rk_zj J2 7)).bind fun J3 =>
(some (rk_zr R4 7)).bind fun R5 =>
(rk_ck S3 4 2 10).bind fun _ =>
(some (rk_ur R5 4 3 (some 7))).bind fun R6 =>
(some (rk_sh S3 8 20 160)).bind fun S4 =>
(some (rk_zi I3 8)).bind fun I4 =>
(some (rk_zj J3 8)).bind fun J4 =>
(some (rk_zr R6 8)).bind fun R7 =>
(rk_ck S4 4 2 10).bind fun _ =>
(some (rk_ur R7 4 7 (some 8))).bind fun R8 =>
(some (rk_sh S4 9 20 3)).bind fun S5 =>
(some (rk_zi I4 9)).bind fun I5 =>
(some (rk_zj J4 9)).bind fun J5 =>
(some (rk_zr R8 9)).bind fun R9 =>
(rk_ck S5 4 2 10).bind fun _ =>
(some (rk_ur R9 4 9 (some 9))).bind fun R10 =>
some (10, S5, I5, J5, R10)
theorem b_X2_init {G : rk_G} {l : Launch} {d : Nat} {n : Nat} {S : rk_Sh} {I : rk_I} {J : rk_J} {R : rk_R} {Q : rk_Q}  {r : Nat × rk_Sh × rk_I × rk_J × rk_R} (hd : 1 ≤ d) (hf : f_X2_init S I J R = some r) (hq : ∀ (n9 : Nat) (S9 : rk_Sh) (I9 : rk_I) (J9 : rk_J) (R9 : rk_R), r = (n9, S9, I9, J9, R9) → Q (none) n9 S9 I9 J9 R9) :
    AW G l yX2_init cX2_init 1 none d 5 645 0 [some (.ref 4)] [] 5 S I J R Q := by
  unfold f_X2_init at hf
  refine AW_aload_n0 dX2_init_0 ?_
  refine AW_objInit dX2_init_1 ko_X2_3 (Nat.le_trans (by decide) hd) (Nat.le_of_ble_eq_true rfl) ?_
  refine AW_aload_n0 dX2_init_4 ?_
  refine AW_sipush (v := 160) dX2_init_5 (by decide) ?_
  obtain ⟨S1, e2, hf⟩ := rk_bd hf
  obtain ⟨I1, e3, hf⟩ := rk_bd hf
  obtain ⟨J1, e4, hf⟩ := rk_bd hf
  obtain ⟨R1, e5, hf⟩ := rk_bd hf
  refine AW_nwI (N := 160) dX2_init_8 kA_int (by decide) (by decide) (by decide) (by decide) e2 e3 e4 e5 ?_
  obtain ⟨_, e6, hf⟩ := rk_bd hf
  have e6 := rk_ck_sp e6
  obtain ⟨R2, e7, hf⟩ := rk_bd hf
  refine AW_puAF dX2_init_10 kf_X2_11 rfl e6 (by decide) rfl rfl e7 ?_
  refine AW_aload_n0 dX2_init_13 ?_
  refine AW_sipush (v := 161) dX2_init_14 (by decide) ?_
  obtain ⟨S2, e9, hf⟩ := rk_bd hf
  obtain ⟨I2, e10, hf⟩ := rk_bd hf
  obtain ⟨J2, e11, hf⟩ := rk_bd hf
  obtain ⟨R3, e12, hf⟩ := rk_bd hf
  refine AW_nwI (N := 161) dX2_init_17 kA_int (by decide) (by decide) (by decide) (by decide) e9 e10 e11 e12 ?_
  obtain ⟨_, e13, hf⟩ := rk_bd hf
  have e13 := rk_ck_sp e13
  obtain ⟨R4, e14, hf⟩ := rk_bd hf
  refine AW_puAF dX2_init_19 kf_X2_15 rfl e13 (by decide) rfl rfl e14 ?_
  refine AW_aload_n0 dX2_init_22 ?_
  refine AW_sipush (v := 161) dX2_init_23 (by decide) ?_
  obtain ⟨S3, e16, hf⟩ := rk_bd hf
  obtain ⟨I3, e17, hf⟩ := rk_bd hf
  obtain ⟨J3, e18, hf⟩ := rk_bd hf
  obtain ⟨R5, e19, hf⟩ := rk_bd hf
  refine AW_nwI (N := 161) dX2_init_26 kA_int (by decide) (by decide) (by decide) (by decide) e16 e17 e18 e19 ?_
  obtain ⟨_, e20, hf⟩ := rk_bd hf
  have e20 := rk_ck_sp e20
  obtain ⟨R6, e21, hf⟩ := rk_bd hf
  refine AW_puAF dX2_init_28 kf_X2_18 rfl e20 (by decide) rfl rfl e21 ?_
  refine AW_aload_n0 dX2_init_31 ?_
  refine AW_sipush (v := 160) dX2_init_32 (by decide) ?_
  obtain ⟨S4, e23, hf⟩ := rk_bd hf
  obtain ⟨I4, e24, hf⟩ := rk_bd hf
  obtain ⟨J4, e25, hf⟩ := rk_bd hf
  obtain ⟨R7, e26, hf⟩ := rk_bd hf
  refine AW_nwI (N := 160) dX2_init_35 kA_int (by decide) (by decide) (by decide) (by decide) e23 e24 e25 e26 ?_
  obtain ⟨_, e27, hf⟩ := rk_bd hf
  have e27 := rk_ck_sp e27
  obtain ⟨R8, e28, hf⟩ := rk_bd hf
  refine AW_puAF dX2_init_37 kf_X2_21 rfl e27 (by decide) rfl rfl e28 ?_
  refine AW_aload_n0 dX2_init_40 ?_
  refine AW_iconst (v := 3) dX2_init_41 (by decide) ?_
  obtain ⟨S5, e30, hf⟩ := rk_bd hf
  obtain ⟨I5, e31, hf⟩ := rk_bd hf
  obtain ⟨J5, e32, hf⟩ := rk_bd hf
  obtain ⟨R9, e33, hf⟩ := rk_bd hf
  refine AW_nwI (N := 3) dX2_init_42 kA_int (by decide) (by decide) (by decide) (by decide) e30 e31 e32 e33 ?_
  obtain ⟨_, e34, hf⟩ := rk_bd hf
  have e34 := rk_ck_sp e34
  obtain ⟨R10, e35, hf⟩ := rk_bd hf
  refine AW_puAF dX2_init_44 kf_X2_24 rfl e34 (by decide) rfl rfl e35 ?_
  exact AW_vret dX2_init_47 rfl (hq _ _ _ _ _ (Option.some.inj hf).symm)
theorem w_X2_init {G : rk_G} {l : Launch} {d : Nat} {n : Nat} {S : rk_Sh} {I : rk_I} {J : rk_J} {R : rk_R}  {n8 : Nat} {S8 : rk_Sh} {I8 : rk_I} {J8 : rk_J} {R8 : rk_R} (hd : 1 ≤ d) (hf : f_X2_init S I J R = some (n8, S8, I8, J8, R8)) :
    CW G l yX2_init cX2_init 1 none d 5 645 [.ref 4] 5 S I J R (rk_qv n8 S8 I8 J8 R8 True) :=
  CW.of (by decide +kernel) (Nat.le_of_ble_eq_true rfl) (rk_sbs rk_sb0) (b_X2_init hd hf (fun n9 S9 I9 J9 R9 h9 => by cases h9; exact ⟨rfl, rfl, rfl, rfl, rfl, rfl, trivial⟩))
noncomputable def f_X3_init (n : Nat) (S : rk_Sh) (I : rk_I) (J : rk_J) (R : rk_R) (a0 : Nat) : Option (Nat × rk_Sh × rk_I × rk_J × rk_R) :=
(rk_nck n).bind fun _ =>
(some (rk_sh S n 20 160)).bind fun S1 =>
(some (rk_zi I n)).bind fun I1 =>
(some (rk_zj J n)).bind fun J1 =>
(some (rk_zr R n)).bind fun R1 =>
(rk_ck S1 a0 3 2).bind fun _ =>
(some (rk_ur R1 a0 0 (some n))).bind fun R2 =>
some ((n + 1), S1, I1, J1, R2)
theorem b_X3_init {G : rk_G} {l : Launch} {d : Nat} {n : Nat} {S : rk_Sh} {I : rk_I} {J : rk_J} {R : rk_R} {Q : rk_Q} {a0 : Nat} {r : Nat × rk_Sh × rk_I × rk_J × rk_R} (hd : 1 ≤ d) (hS_a0 : S a0 = (3, 2)) (hf : f_X3_init n S I J R a0 = some r) (hq : ∀ (n9 : Nat) (S9 : rk_Sh) (I9 : rk_I) (J9 : rk_J) (R9 : rk_R), r = (n9, S9, I9, J9, R9) → Q (none) n9 S9 I9 J9 R9) :
    AW G l yX3_init cX3_init 1 none d 1 160 0 [some (.ref a0)] [] n S I J R Q := by
  unfold f_X3_init at hf
  refine AW_aload_n0 dX3_init_0 ?_
  refine AW_objInit dX3_init_1 ko_X3_1 (Nat.le_trans (by decide) hd) (Nat.le_of_ble_eq_true rfl) ?_
  refine AW_aload_n0 dX3_init_4 ?_
  refine AW_sipush (v := 160) dX3_init_5 (by decide) ?_
  obtain ⟨_, e1, hf⟩ := rk_bd hf
  have e1 := rk_nck_sp e1
  obtain ⟨S1, e2, hf⟩ := rk_bd hf
  obtain ⟨I1, e3, hf⟩ := rk_bd hf
  obtain ⟨J1, e4, hf⟩ := rk_bd hf
  obtain ⟨R1, e5, hf⟩ := rk_bd hf
  refine AW_nwI (N := 160) dX3_init_8 kA_int (by decide) (by decide) (by decide) e1 e2 e3 e4 e5 ?_
  obtain ⟨_, e6, hf⟩ := rk_bd hf
  have e6 := rk_ck_sp e6
  obtain ⟨R2, e7, hf⟩ := rk_bd hf
  refine AW_puAF dX3_init_10 kf_X3_9 rfl e6 (by decide) rfl rfl e7 ?_
  exact AW_vret dX3_init_13 rfl (hq _ _ _ _ _ (Option.some.inj hf).symm)
theorem w_X3_init {G : rk_G} {l : Launch} {d : Nat} {n : Nat} {S : rk_Sh} {I : rk_I} {J : rk_J} {R : rk_R} {a0 : Nat} {n8 : Nat} {S8 : rk_Sh} {I8 : rk_I} {J8 : rk_J} {R8 : rk_R} (hd : 1 ≤ d) (hS_a0 : S a0 = (3, 2)) (hf : f_X3_init n S I J R a0 = some (n8, S8, I8, J8, R8)) :
    CW G l yX3_init cX3_init 1 none d 1 160 [.ref a0] n S I J R (rk_qv n8 S8 I8 J8 R8 True) :=
  CW.of (by decide +kernel) (Nat.le_of_ble_eq_true rfl) (rk_sbs rk_sb0) (b_X3_init hd hS_a0 hf (fun n9 S9 I9 J9 R9 h9 => by cases h9; exact ⟨rfl, rfl, rfl, rfl, rfl, rfl, trivial⟩))
noncomputable def f_X1_init (n : Nat) (S : rk_Sh) (I : rk_I) (J : rk_J) (R : rk_R) (a0 : Nat) : Option (Nat × rk_Sh × rk_I × rk_J × rk_R) :=
(rk_nck n).bind fun _ =>
(some (rk_sh S n 20 10)).bind fun S1 =>
(some (rk_zi I n)).bind fun I1 =>
(some (rk_zj J n)).bind fun J1 =>
(some (rk_zr R n)).bind fun R1 =>
(rk_ck S1 a0 1 5).bind fun _ =>
(some (rk_ur R1 a0 0 (some n))).bind fun R2 =>
(rk_nck (n + 1)).bind fun _ =>
(some (rk_sh S1 (n + 1) 23 24)).bind fun S2 =>
(some (rk_zi I1 (n + 1))).bind fun I2 =>
(some (rk_zj J1 (n + 1))).bind fun J2 =>
(some (rk_zr R2 (n + 1))).bind fun R3 =>
(rk_ck S2 a0 1 5).bind fun _ =>
(some (rk_ur R3 a0 1 (some (n + 1)))).bind fun R4 =>
(rk_nck ((n + 1) + 1)).bind fun _ =>
(some (rk_sh S2 ((n + 1) + 1) 20 24)).bind fun S3 =>
(some (rk_zi I2 ((n + 1) + 1))).bind fun I3 =>
(some (rk_zj J2 ((n + 1) + 1))).bind fun J3 =>
(some (rk_zr R4 ((n + 1) + 1))).bind fun R5 =>
(rk_ck S3 a0 1 5).bind fun _ =>
(some (rk_ur R5 a0 2 (some ((n + 1) + 1)))).bind fun R6 =>
some ((((n + 1) + 1) + 1), S3, I3, J3, R6)
theorem b_X1_init {G : rk_G} {l : Launch} {d : Nat} {n : Nat} {S : rk_Sh} {I : rk_I} {J : rk_J} {R : rk_R} {Q : rk_Q} {a0 : Nat} {r : Nat × rk_Sh × rk_I × rk_J × rk_R} (hd : 1 ≤ d) (hS_a0 : S a0 = (1, 5)) (hf : f_X1_init n S I J R a0 = some r) (hq : ∀ (n9 : Nat) (S9 : rk_Sh) (I9 : rk_I) (J9 : rk_J) (R9 : rk_R), r = (n9, S9, I9, J9, R9) → Q (none) n9 S9 I9 J9 R9) :
    AW G l yX1_init cX1_init 1 none d 3 58 0 [some (.ref a0)] [] n S I J R Q := by
  unfold f_X1_init at hf
  refine AW_aload_n0 dX1_init_0 ?_
  refine AW_objInit dX1_init_1 ko_X1_3 (Nat.le_trans (by decide) hd) (Nat.le_of_ble_eq_true rfl) ?_
  refine AW_aload_n0 dX1_init_4 ?_
  refine AW_bipush (v := 10) dX1_init_5 (by decide) ?_
  obtain ⟨_, e1, hf⟩ := rk_bd hf
  have e1 := rk_nck_sp e1
  obtain ⟨S1, e2, hf⟩ := rk_bd hf
  obtain ⟨I1, e3, hf⟩ := rk_bd hf
  obtain ⟨J1, e4, hf⟩ := rk_bd hf
  obtain ⟨R1, e5, hf⟩ := rk_bd hf
  refine AW_nwI (N := 10) dX1_init_7 kA_int (by decide) (by decide) (by decide) e1 e2 e3 e4 e5 ?_
  obtain ⟨_, e6, hf⟩ := rk_bd hf
  have e6 := rk_ck_sp e6
  obtain ⟨R2, e7, hf⟩ := rk_bd hf
  refine AW_puAF dX1_init_9 kf_X1_9 rfl e6 (by decide) rfl rfl e7 ?_
  refine AW_aload_n0 dX1_init_12 ?_
  refine AW_bipush (v := 24) dX1_init_13 (by decide) ?_
  obtain ⟨_, e8, hf⟩ := rk_bd hf
  have e8 := rk_nck_sp e8
  obtain ⟨S2, e9, hf⟩ := rk_bd hf
  obtain ⟨I2, e10, hf⟩ := rk_bd hf
  obtain ⟨J2, e11, hf⟩ := rk_bd hf
  obtain ⟨R3, e12, hf⟩ := rk_bd hf
  refine AW_nwQ (N := 24) dX1_init_15 (Or.inr (Or.inl rfl)) kw_X1_15 (by decide) (by decide) (by decide) e8 e9 e10 e11 e12 ?_
  obtain ⟨_, e13, hf⟩ := rk_bd hf
  have e13 := rk_ck_sp e13
  obtain ⟨R4, e14, hf⟩ := rk_bd hf
  refine AW_puAF dX1_init_18 kf_X1_17 rfl e13 (by decide) rfl rfl e14 ?_
  refine AW_aload_n0 dX1_init_21 ?_
  refine AW_bipush (v := 24) dX1_init_22 (by decide) ?_
  obtain ⟨_, e15, hf⟩ := rk_bd hf
  have e15 := rk_nck_sp e15
  obtain ⟨S3, e16, hf⟩ := rk_bd hf
  obtain ⟨I3, e17, hf⟩ := rk_bd hf
  obtain ⟨J3, e18, hf⟩ := rk_bd hf
  obtain ⟨R5, e19, hf⟩ := rk_bd hf
  refine AW_nwI (N := 24) dX1_init_24 kA_int (by decide) (by decide) (by decide) e15 e16 e17 e18 e19 ?_
  obtain ⟨_, e20, hf⟩ := rk_bd hf
  have e20 := rk_ck_sp e20
  obtain ⟨R6, e21, hf⟩ := rk_bd hf
  refine AW_puAF dX1_init_26 kf_X1_21 rfl e20 (by decide) rfl rfl e21 ?_
  exact AW_vret dX1_init_29 rfl (hq _ _ _ _ _ (Option.some.inj hf).symm)
theorem w_X1_init {G : rk_G} {l : Launch} {d : Nat} {n : Nat} {S : rk_Sh} {I : rk_I} {J : rk_J} {R : rk_R} {a0 : Nat} {n8 : Nat} {S8 : rk_Sh} {I8 : rk_I} {J8 : rk_J} {R8 : rk_R} (hd : 1 ≤ d) (hS_a0 : S a0 = (1, 5)) (hf : f_X1_init n S I J R a0 = some (n8, S8, I8, J8, R8)) :
    CW G l yX1_init cX1_init 1 none d 3 58 [.ref a0] n S I J R (rk_qv n8 S8 I8 J8 R8 True) :=
  CW.of (by decide +kernel) (Nat.le_of_ble_eq_true rfl) (rk_sbs rk_sb0) (b_X1_init hd hS_a0 hf (fun n9 S9 I9 J9 R9 h9 => by cases h9; exact ⟨rfl, rfl, rfl, rfl, rfl, rfl, trivial⟩))
noncomputable def f_X4_init (n : Nat) (S : rk_Sh) (I : rk_I) (J : rk_J) (R : rk_R) (a0 : Nat) : Option (Nat × rk_Sh × rk_I × rk_J × rk_R) :=
(rk_nck n).bind fun _ =>
(some (rk_sh S n 20 10)).bind fun S1 =>
(some (rk_zi I n)).bind fun I1 =>
(some (rk_zj J n)).bind fun J1 =>
(some (rk_zr R n)).bind fun R1 =>
(rk_ck S1 a0 4 4).bind fun _ =>
(some (rk_ur R1 a0 0 (some n))).bind fun R2 =>
some ((n + 1), S1, I1, J1, R2)
theorem b_X4_init {G : rk_G} {l : Launch} {d : Nat} {n : Nat} {S : rk_Sh} {I : rk_I} {J : rk_J} {R : rk_R} {Q : rk_Q} {a0 : Nat} {r : Nat × rk_Sh × rk_I × rk_J × rk_R} (hd : 1 ≤ d) (hS_a0 : S a0 = (4, 4)) (hf : f_X4_init n S I J R a0 = some r) (hq : ∀ (n9 : Nat) (S9 : rk_Sh) (I9 : rk_I) (J9 : rk_J) (R9 : rk_R), r = (n9, S9, I9, J9, R9) → Q (none) n9 S9 I9 J9 R9) :
    AW G l yX4_init cX4_init 1 none d 1 10 0 [some (.ref a0)] [] n S I J R Q := by
  unfold f_X4_init at hf
  refine AW_aload_n0 dX4_init_0 ?_
  refine AW_objInit dX4_init_1 ko_X4_3 (Nat.le_trans (by decide) hd) (Nat.le_of_ble_eq_true rfl) ?_
  refine AW_aload_n0 dX4_init_4 ?_
  refine AW_bipush (v := 10) dX4_init_5 (by decide) ?_
  obtain ⟨_, e1, hf⟩ := rk_bd hf
  have e1 := rk_nck_sp e1
  obtain ⟨S1, e2, hf⟩ := rk_bd hf
  obtain ⟨I1, e3, hf⟩ := rk_bd hf
  obtain ⟨J1, e4, hf⟩ := rk_bd hf
  obtain ⟨R1, e5, hf⟩ := rk_bd hf
  refine AW_nwI (N := 10) dX4_init_7 kA_int (by decide) (by decide) (by decide) e1 e2 e3 e4 e5 ?_
  obtain ⟨_, e6, hf⟩ := rk_bd hf
  have e6 := rk_ck_sp e6
  obtain ⟨R2, e7, hf⟩ := rk_bd hf
  refine AW_puAF dX4_init_9 kf_X4_9 rfl e6 (by decide) rfl rfl e7 ?_
  exact AW_vret dX4_init_12 rfl (hq _ _ _ _ _ (Option.some.inj hf).symm)
theorem w_X4_init {G : rk_G} {l : Launch} {d : Nat} {n : Nat} {S : rk_Sh} {I : rk_I} {J : rk_J} {R : rk_R} {a0 : Nat} {n8 : Nat} {S8 : rk_Sh} {I8 : rk_I} {J8 : rk_J} {R8 : rk_R} (hd : 1 ≤ d) (hS_a0 : S a0 = (4, 4)) (hf : f_X4_init n S I J R a0 = some (n8, S8, I8, J8, R8)) :
    CW G l yX4_init cX4_init 1 none d 1 10 [.ref a0] n S I J R (rk_qv n8 S8 I8 J8 R8 True) :=
  CW.of (by decide +kernel) (Nat.le_of_ble_eq_true rfl) (rk_sbs rk_sb0) (b_X4_init hd hS_a0 hf (fun n9 S9 I9 J9 R9 h9 => by cases h9; exact ⟨rfl, rfl, rfl, rfl, rfl, rfl, trivial⟩))
noncomputable def f_X6_init (n : Nat) (S : rk_Sh) (I : rk_I) (J : rk_J) (R : rk_R) (a0 : Nat) : Option (Nat × rk_Sh × rk_I × rk_J × rk_R) :=
(rk_nck n).bind fun _ =>
(some (rk_sh S n 20 40)).bind fun S1 =>
(some (rk_zi I n)).bind fun I1 =>
(some (rk_zj J n)).bind fun J1 =>
(some (rk_zr R n)).bind fun R1 =>
(rk_ck S1 a0 6 3).bind fun _ =>
(some (rk_ur R1 a0 0 (some n))).bind fun R2 =>
(some (rk_ui I1 a0 1 (-1))).bind fun I2 =>
some ((n + 1), S1, I2, J1, R2)
theorem b_X6_init {G : rk_G} {l : Launch} {d : Nat} {n : Nat} {S : rk_Sh} {I : rk_I} {J : rk_J} {R : rk_R} {Q : rk_Q} {a0 : Nat} {r : Nat × rk_Sh × rk_I × rk_J × rk_R} (hd : 1 ≤ d) (hS_a0 : S a0 = (6, 3)) (hf : f_X6_init n S I J R a0 = some r) (hq : ∀ (n9 : Nat) (S9 : rk_Sh) (I9 : rk_I) (J9 : rk_J) (R9 : rk_R), r = (n9, S9, I9, J9, R9) → Q (none) n9 S9 I9 J9 R9) :
    AW G l yX6_init cX6_init 1 none d 1 40 0 [some (.ref a0)] [] n S I J R Q := by
  unfold f_X6_init at hf
  refine AW_aload_n0 dX6_init_0 ?_
  refine AW_objInit dX6_init_1 ko_X6_3 (Nat.le_trans (by decide) hd) (Nat.le_of_ble_eq_true rfl) ?_
  refine AW_aload_n0 dX6_init_4 ?_
  refine AW_bipush (v := 40) dX6_init_5 (by decide) ?_
  obtain ⟨_, e1, hf⟩ := rk_bd hf
  have e1 := rk_nck_sp e1
  obtain ⟨S1, e2, hf⟩ := rk_bd hf
  obtain ⟨I1, e3, hf⟩ := rk_bd hf
  obtain ⟨J1, e4, hf⟩ := rk_bd hf
  obtain ⟨R1, e5, hf⟩ := rk_bd hf
  refine AW_nwI (N := 40) dX6_init_7 kA_int (by decide) (by decide) (by decide) e1 e2 e3 e4 e5 ?_
  obtain ⟨_, e6, hf⟩ := rk_bd hf
  have e6 := rk_ck_sp e6
  obtain ⟨R2, e7, hf⟩ := rk_bd hf
  refine AW_puAF dX6_init_9 kf_X6_9 rfl e6 (by decide) rfl rfl e7 ?_
  refine AW_aload_n0 dX6_init_12 ?_
  refine AW_iconst (v := (-1)) dX6_init_13 (by decide) ?_
  obtain ⟨I2, e8, hf⟩ := rk_bd hf
  refine AW_puI dX6_init_14 kf_X6_15 rfl e6 (by decide) e8 ?_
  exact AW_vret dX6_init_17 rfl (hq _ _ _ _ _ (Option.some.inj hf).symm)
theorem w_X6_init {G : rk_G} {l : Launch} {d : Nat} {n : Nat} {S : rk_Sh} {I : rk_I} {J : rk_J} {R : rk_R} {a0 : Nat} {n8 : Nat} {S8 : rk_Sh} {I8 : rk_I} {J8 : rk_J} {R8 : rk_R} (hd : 1 ≤ d) (hS_a0 : S a0 = (6, 3)) (hf : f_X6_init n S I J R a0 = some (n8, S8, I8, J8, R8)) :
    CW G l yX6_init cX6_init 1 none d 1 40 [.ref a0] n S I J R (rk_qv n8 S8 I8 J8 R8 True) :=
  CW.of (by decide +kernel) (Nat.le_of_ble_eq_true rfl) (rk_sbs rk_sb0) (b_X6_init hd hS_a0 hf (fun n9 S9 I9 J9 R9 h9 => by cases h9; exact ⟨rfl, rfl, rfl, rfl, rfl, rfl, trivial⟩))
noncomputable def f_J0_coder_7d493_1000001  : Option (Int32) :=
some 0
theorem b_J0_coder_7d493_1000001 {G : rk_G} {l : Launch} {d kc ks : Nat} {n : Nat} {S : rk_Sh} {I : rk_I} {J : rk_J} {R : rk_R} {Q : rk_Q}  {r : Int32} (hf : f_J0_coder_7d493_1000001 = some r) (hq : ∀ (v9 : Int32), r = v9 → Q (some (.int v9)) n S I J R) :
    AW G l yJ0_coder_7d493 cJ0_coder_7d493 1 (some .byte) d kc ks 0 [some (.ref 1000001)] [] n S I J R Q := by
  unfold f_J0_coder_7d493_1000001 at hf
  refine AW_gsZ dJ0_coder_7d493_0 ky_J0_38 ?_
  refine AW_if_eq 13 dJ0_coder_7d493_3 (by decide) (fun h9 => absurd h9 (by decide)) (fun _ => ?_)
  refine AW_aload_n0 dJ0_coder_7d493_6 ?_
  refine AW_scoder 0 (by decide) dJ0_coder_7d493_7 ky_J0_15 ?_
  refine AW_goto 14 dJ0_coder_7d493_10 (by decide) ?_
  exact AW_bret dJ0_coder_7d493_14 rfl (by decide) (hq _ (Option.some.inj hf).symm)
theorem w_J0_coder_7d493_1000001 {G : rk_G} {l : Launch} {d : Nat} {n : Nat} {S : rk_Sh} {I : rk_I} {J : rk_J} {R : rk_R}  {v8 : Int32} (hf : f_J0_coder_7d493_1000001 = some v8) :
    CW G l yJ0_coder_7d493 cJ0_coder_7d493 1 (some .byte) d 0 0 [.ref 1000001] n S I J R (rk_qi v8 n S I J R True) :=
  CW.of (by decide +kernel) (Nat.le_of_ble_eq_true rfl) (rk_sbs rk_sb0) (b_J0_coder_7d493_1000001 hf (fun v9 h9 => by cases h9; exact ⟨rfl, rfl, rfl, rfl, rfl, rfl, trivial⟩))
noncomputable def f_J0_length_8abf5_1000001  : Option (Int32) :=
(f_J0_coder_7d493_1000001 ).bind fun x1 =>
some (45 >>> (x1 &&& 31))
theorem b_J0_length_8abf5_1000001 {G : rk_G} {l : Launch} {d kc ks : Nat} {n : Nat} {S : rk_Sh} {I : rk_I} {J : rk_J} {R : rk_R} {Q : rk_Q}  {r : Int32} (hd : 1 ≤ d) (hf : f_J0_length_8abf5_1000001 = some r) (hq : ∀ (v9 : Int32), r = v9 → Q (some (.int v9)) n S I J R) :
    AW G l yJ0_length_8abf5 cJ0_length_8abf5 1 (some .int) d kc ks 0 [some (.ref 1000001)] [] n S I J R Q := by
  unfold f_J0_length_8abf5_1000001 at hf
  refine AW_aload_n0 dJ0_length_8abf5_0 ?_
  refine AW_svalue 0 (by decide) dJ0_length_8abf5_1 ky_J0_9 ?_
  refine AW_salen 0 (v := 45) (by decide) dJ0_length_8abf5_4 (by decide) ?_
  refine AW_aload_n0 dJ0_length_8abf5_5 ?_
  obtain ⟨x1, e1, hf⟩ := rk_bd hf
  refine AW_iY0iz 0 (w_J0_coder_7d493_1000001 (d := 0) e1) dJ0_length_8abf5_6 kl_J0_335 (by decide) rfl (Nat.le_trans (by decide) hd) (by decide) (Nat.le_of_ble_eq_true rfl) (fun _ => ?_)
  refine AW_ishr dJ0_length_8abf5_9 ?_
  exact AW_iret dJ0_length_8abf5_10 rfl (hq _ (Option.some.inj hf).symm)
theorem w_J0_length_8abf5_1000001 {G : rk_G} {l : Launch} {d : Nat} {n : Nat} {S : rk_Sh} {I : rk_I} {J : rk_J} {R : rk_R}  {v8 : Int32} (hd : 1 ≤ d) (hf : f_J0_length_8abf5_1000001 = some v8) :
    CW G l yJ0_length_8abf5 cJ0_length_8abf5 1 (some .int) d 0 0 [.ref 1000001] n S I J R (rk_qi v8 n S I J R True) :=
  CW.of (by decide +kernel) (Nat.le_of_ble_eq_true rfl) (rk_sbs rk_sb0) (b_J0_length_8abf5_1000001 hd hf (fun v9 h9 => by cases h9; exact ⟨rfl, rfl, rfl, rfl, rfl, rfl, trivial⟩))
noncomputable def f_J0_isLatin1_aae02_1000001  : Option (Int32) :=
some 1
theorem b_J0_isLatin1_aae02_1000001 {G : rk_G} {l : Launch} {d kc ks : Nat} {n : Nat} {S : rk_Sh} {I : rk_I} {J : rk_J} {R : rk_R} {Q : rk_Q}  {r : Int32} (hf : f_J0_isLatin1_aae02_1000001 = some r) (hq : ∀ (v9 : Int32), r = v9 → Q (some (.int v9)) n S I J R) :
    AW G l yJ0_isLatin1_aae02 cJ0_isLatin1_aae02 1 (some .boolean) d kc ks 0 [some (.ref 1000001)] [] n S I J R Q := by
  unfold f_J0_isLatin1_aae02_1000001 at hf
  refine AW_gsZ dJ0_isLatin1_aae02_0 ky_J0_38 ?_
  refine AW_if_eq 17 dJ0_isLatin1_aae02_3 (by decide) (fun h9 => absurd h9 (by decide)) (fun _ => ?_)
  refine AW_aload_n0 dJ0_isLatin1_aae02_6 ?_
  refine AW_scoder 0 (by decide) dJ0_isLatin1_aae02_7 ky_J0_15 ?_
  refine AW_if_ne 17 dJ0_isLatin1_aae02_10 (by decide) (fun h9 => absurd h9 (by decide)) (fun _ => ?_)
  refine AW_iconst (v := 1) dJ0_isLatin1_aae02_13 (by decide) ?_
  refine AW_goto 18 dJ0_isLatin1_aae02_14 (by decide) ?_
  exact AW_zret dJ0_isLatin1_aae02_18 rfl rfl (hq _ (Option.some.inj hf).symm)
theorem w_J0_isLatin1_aae02_1000001 {G : rk_G} {l : Launch} {d : Nat} {n : Nat} {S : rk_Sh} {I : rk_I} {J : rk_J} {R : rk_R}  {v8 : Int32} (hf : f_J0_isLatin1_aae02_1000001 = some v8) :
    CW G l yJ0_isLatin1_aae02 cJ0_isLatin1_aae02 1 (some .boolean) d 0 0 [.ref 1000001] n S I J R (rk_qi v8 n S I J R True) :=
  CW.of (by decide +kernel) (Nat.le_of_ble_eq_true rfl) (rk_sbs rk_sb0) (b_J0_isLatin1_aae02_1000001 hf (fun v9 h9 => by cases h9; exact ⟨rfl, rfl, rfl, rfl, rfl, rfl, trivial⟩))
noncomputable def f_J1_charAt_3b067_1000002 (a1 : Int32) : Option (Int32) :=
(f_J0_checkIndex_df160 a1 45).bind fun _ =>
(rk_sbd 0 a1).bind fun x1 =>
(rk_ch (rk_ic (x1 &&& 255))).bind fun x2 =>
some x2
theorem b_J1_charAt_3b067_1000002 {G : rk_G} {l : Launch} {d kc ks : Nat} {n : Nat} {S : rk_Sh} {I : rk_I} {J : rk_J} {R : rk_R} {Q : rk_Q} {a1 : Int32} {r : Int32} (hd : 2 ≤ d) (hf : f_J1_charAt_3b067_1000002 a1 = some r) (hq : ∀ (v9 : Int32), r = v9 → Q (some (.int v9)) n S I J R) :
    AW G l yJ1_charAt_3b067 cJ1_charAt_3b067 2 (some .char) d kc ks 0 [some (.ref 1000002), some (.int a1)] [] n S I J R Q := by
  unfold f_J1_charAt_3b067_1000002 at hf
  refine AW_iload_n1 dJ1_charAt_3b067_0 ?_
  refine AW_aload_n0 dJ1_charAt_3b067_1 ?_
  refine AW_salen 0 (v := 45) (by decide) dJ1_charAt_3b067_2 (by decide) ?_
  obtain ⟨_, e1, hf⟩ := rk_bd hf
  refine AW_iS2vz (w_J0_checkIndex_df160 (d := 1) (Nat.le_refl _) e1) dJ1_charAt_3b067_3 kl_J1_9 (Nat.le_trans (by decide) hd) (by decide) (Nat.le_of_ble_eq_true rfl) (fun _ => ?_)
  refine AW_aload_n0 dJ1_charAt_3b067_6 ?_
  refine AW_iload_n1 dJ1_charAt_3b067_7 ?_
  obtain ⟨x1, e2, hf⟩ := rk_bd hf
  refine AW_sbald 0 (by decide) dJ1_charAt_3b067_8 e2 ?_
  refine AW_sipush (v := 255) dJ1_charAt_3b067_9 (by decide) ?_
  refine AW_iand dJ1_charAt_3b067_12 ?_
  refine AW_ic dJ1_charAt_3b067_13 ?_
  obtain ⟨x2, e3, hf⟩ := rk_bd hf
  exact AW_cr dJ1_charAt_3b067_14 rfl e3 (hq _ (Option.some.inj hf).symm)
theorem w_J1_charAt_3b067_1000002 {G : rk_G} {l : Launch} {d : Nat} {n : Nat} {S : rk_Sh} {I : rk_I} {J : rk_J} {R : rk_R} {a1 : Int32} {v8 : Int32} (hd : 2 ≤ d) (hf : f_J1_charAt_3b067_1000002 a1 = some v8) :
    CW G l yJ1_charAt_3b067 cJ1_charAt_3b067 2 (some .char) d 0 0 [.ref 1000002, .int a1] n S I J R (rk_qi v8 n S I J R True) :=
  CW.of (by decide +kernel) (Nat.le_of_ble_eq_true rfl) (rk_sbs (rk_sbs rk_sb0)) (b_J1_charAt_3b067_1000002 hd hf (fun v9 h9 => by cases h9; exact ⟨rfl, rfl, rfl, rfl, rfl, rfl, trivial⟩))
noncomputable def f_J0_charAt_5068e_1000001 (a1 : Int32) : Option (Int32) :=
(f_J0_isLatin1_aae02_1000001 ).bind fun x1 =>
if x1 = 0 then (
none) else (
(f_J1_charAt_3b067_1000002 a1).bind fun x2 =>
(rk_ch x2).bind fun x3 =>
some x3)
theorem b_J0_charAt_5068e_1000001 {G : rk_G} {l : Launch} {d kc ks : Nat} {n : Nat} {S : rk_Sh} {I : rk_I} {J : rk_J} {R : rk_R} {Q : rk_Q} {a1 : Int32} {r : Int32} (hd : 3 ≤ d) (hf : f_J0_charAt_5068e_1000001 a1 = some r) (hq : ∀ (v9 : Int32), r = v9 → Q (some (.int v9)) n S I J R) :
    AW G l yJ0_charAt_5068e cJ0_charAt_5068e 2 (some .char) d kc ks 0 [some (.ref 1000001), some (.int a1)] [] n S I J R Q := by
  unfold f_J0_charAt_5068e_1000001 at hf
  refine AW_aload_n0 dJ0_charAt_5068e_0 ?_
  obtain ⟨x1, e1, hf⟩ := rk_bd hf
  refine AW_iY0iz 0 (w_J0_isLatin1_aae02_1000001 (d := 0) e1) dJ0_charAt_5068e_1 kl_J0_492 (by decide) rfl (Nat.le_trans (by decide) hd) (by decide) (Nat.le_of_ble_eq_true rfl) (fun _ => ?_)
  refine AW_if_eq 16 dJ0_charAt_5068e_4 (by decide) (fun h1 => ?_) (fun h1 => ?_)
  · have hf := rk_it hf h1
    refine AW_aload_n0 dJ0_charAt_5068e_16 ?_
    refine AW_svalue 0 (by decide) dJ0_charAt_5068e_17 ky_J0_9 ?_
    refine AW_iload_n1 dJ0_charAt_5068e_20 ?_
    cases hf
  · have hf := rk_if hf h1
    refine AW_aload_n0 dJ0_charAt_5068e_7 ?_
    refine AW_svalue 0 (by decide) dJ0_charAt_5068e_8 ky_J0_9 ?_
    refine AW_iload_n1 dJ0_charAt_5068e_11 ?_
    obtain ⟨x2, e2, hf⟩ := rk_bd hf
    refine AW_iS2iz (w_J1_charAt_3b067_1000002 (d := 2) (Nat.le_refl _) e2) dJ0_charAt_5068e_12 kl_J0_495 (Nat.le_trans (by decide) hd) (by decide) (Nat.le_of_ble_eq_true rfl) (fun _ => ?_)
    obtain ⟨x3, e3, hf⟩ := rk_bd hf
    exact AW_cr dJ0_charAt_5068e_15 rfl e3 (hq _ (Option.some.inj hf).symm)
theorem w_J0_charAt_5068e_1000001 {G : rk_G} {l : Launch} {d : Nat} {n : Nat} {S : rk_Sh} {I : rk_I} {J : rk_J} {R : rk_R} {a1 : Int32} {v8 : Int32} (hd : 3 ≤ d) (hf : f_J0_charAt_5068e_1000001 a1 = some v8) :
    CW G l yJ0_charAt_5068e cJ0_charAt_5068e 2 (some .char) d 0 0 [.ref 1000001, .int a1] n S I J R (rk_qi v8 n S I J R True) :=
  CW.of (by decide +kernel) (Nat.le_of_ble_eq_true rfl) (rk_sbs (rk_sbs rk_sb0)) (b_J0_charAt_5068e_1000001 hd hf (fun v9 h9 => by cases h9; exact ⟨rfl, rfl, rfl, rfl, rfl, rfl, trivial⟩))
noncomputable def f_X9_init_l92 (S : rk_Sh) (I : rk_I) (J : rk_J) (R : rk_R) (s1 : Int32) : Option ((Int32 × Nat × rk_Sh × rk_I × rk_J × rk_R) ⊕ (Int32 × Nat × rk_Sh × rk_I × rk_J × rk_R)) :=
if 4 ≤ s1 then (
some (.inr (s1, n, S, I, J, R))) else (
(rk_ck S 0 8 17).bind fun _ =>
(rk_ckR R 0 11 18).bind fun _ =>
(rk_nck n).bind fun _ =>
(some (rk_sh S n 6 3)).bind fun S1 =>
(some (rk_zi I n)).bind fun I1 =>
(some (rk_zj J n)).bind fun J1 =>
(some (rk_zr R n)).bind fun R1 =>
rk_b5 (f_X6_init (n + 1) S1 I1 J1 R1 n) fun n1 S2 I2 J2 R2 =>
(rk_ck S1 n 6 3).bind fun _ =>
(rk_ck S2 18 25 4).bind fun _ =>
(rk_ck S2 n 6 3).bind fun _ =>
(rk_wrR R2 18 4 s1 n).bind fun R3 =>
some (.inl ((s1 + 1), n1, S2, I2, J2, R3)))
theorem b_X9_init_l92 {G : rk_G} {l : Launch} {d : Nat} {n : Nat} {S : rk_Sh} {I : rk_I} {J : rk_J} {R : rk_R} {Q : rk_Q} {s1 : Int32} {r : (Int32 × Nat × rk_Sh × rk_I × rk_J × rk_R) ⊕ (Int32 × Nat × rk_Sh × rk_I × rk_J × rk_R)} (hd : 65 ≤ d) (hf : f_X9_init_l92 S I J R s1 = some r) (hc : ∀ (w0 : Int32) (n9 : Nat) (S9 : rk_Sh) (I9 : rk_I) (J9 : rk_J) (R9 : rk_R), r = .inl (w0, n9, S9, I9, J9, R9) → AW G l yX9_init cX9_init 2 none d 3 322 92 [some (.ref 0), some (.int w0)] [] n9 S9 I9 J9 R9 Q) (he : ∀ (w0 : Int32) (n9 : Nat) (S9 : rk_Sh) (I9 : rk_I) (J9 : rk_J) (R9 : rk_R), r = .inr (w0, n9, S9, I9, J9, R9) → AW G l yX9_init cX9_init 2 none d 3 322 116 [some (.ref 0), some (.int w0)] [] n9 S9 I9 J9 R9 Q) :
    AW G l yX9_init cX9_init 2 none d 3 322 92 [some (.ref 0), some (.int s1)] [] n S I J R Q := by
  unfold f_X9_init_l92 at hf
  refine AW_iload_n1 dX9_init_92 ?_
  refine AW_iconst (v := 4) dX9_init_93 (by decide) ?_
  refine AW_icmp_ge 116 dX9_init_94 (by decide) (fun h1 => ?_) (fun h1 => ?_)
  · have hf := rk_it hf h1
    refine AW_sb (rk_sbs (rk_sbs rk_sb0)) ?_
    exact he _ _ _ _ _ _ (Option.some.inj hf).symm
  · have hf := rk_if hf h1
    refine AW_aload_n0 dX9_init_97 ?_
    obtain ⟨_, e1, hf⟩ := rk_bd hf
    have e1 := rk_ck_sp e1
    obtain ⟨_, e2, hf⟩ := rk_bd hf
    have e2 := rk_ckR_sp e2
    refine AW_getR dX9_init_98 kf_X9_57 rfl e1 (by decide) e2 ?_
    refine AW_iload_n1 dX9_init_101 ?_
    obtain ⟨_, e3, hf⟩ := rk_bd hf
    have e3 := rk_nck_sp e3
    obtain ⟨S1, e4, hf⟩ := rk_bd hf
    obtain ⟨I1, e5, hf⟩ := rk_bd hf
    obtain ⟨J1, e6, hf⟩ := rk_bd hf
    obtain ⟨R1, e7, hf⟩ := rk_bd hf
    refine AW_nwO dX9_init_102 kc_X9_55 e3 e4 e5 e6 e7 ?_
    refine AW_dup dX9_init_105 rfl ?_
    obtain ⟨n1, S2, I2, J2, R2, e8, hf⟩ := rk_bd5 hf
    obtain ⟨_, e9, hf⟩ := rk_bd hf
    have e9 := rk_ck_sp e9
    refine AW_iN0v (w_X6_init (d := 1) (Nat.le_refl _) e9 e8) dX9_init_106 kl_X9_65 (Nat.le_trans (by decide) hd) (by decide) (Nat.le_of_ble_eq_true rfl) (fun _ => ?_)
    obtain ⟨_, e10, hf⟩ := rk_bd hf
    have e10 := rk_ck_sp e10
    obtain ⟨_, e11, hf⟩ := rk_bd hf
    have e11 := rk_ck_sp e11
    obtain ⟨R3, e12, hf⟩ := rk_bd hf
    refine AW_wrR dX9_init_109 e10 (Or.inr (Or.inr (Or.inr rfl))) e11 e12 ?_
    refine AW_iinc_1 (v := 1) dX9_init_110 (by decide) (by decide) rfl ?_
    refine AW_goto 92 dX9_init_113 (by decide) ?_
    refine AW_sb (rk_sbs (rk_sbs rk_sb0)) ?_
    exact hc _ _ _ _ _ _ (Option.some.inj hf).symm
theorem L_X9_init_w92 {G : rk_G} {l : Launch} {d : Nat}  {Q : rk_Q}  {r : Int32 × Nat × rk_Sh × rk_I × rk_J × rk_R} (hd : 65 ≤ d) (he : ∀ (w0 : Int32) (n9 : Nat) (S9 : rk_Sh) (I9 : rk_I) (J9 : rk_J) (R9 : rk_R), r = (w0, n9, S9, I9, J9, R9) → AW G l yX9_init cX9_init 2 none d 3 322 116 [some (.ref 0), some (.int w0)] [] n9 S9 I9 J9 R9 Q) :
    ∀ (m9 : Nat) (s1 : Int32) (n : Nat) (S : rk_Sh) (I : rk_I) (J : rk_J) (R : rk_R), rk_loop (fun a9 => f_X9_init_l92 a9.2.2.1 a9.2.2.2.1 a9.2.2.2.2.1 a9.2.2.2.2.2 a9.1) m9 (s1, n, S, I, J, R) = some r → AW G l yX9_init cX9_init 2 none d 3 322 92 [some (.ref 0), some (.int s1)] [] n S I J R Q := by
  intro m9
  induction m9 with
  | zero => intro s1 n S I J R hf; cases hf
  | succ m9 ih =>
    intro s1 n S I J R hf 
    obtain ⟨r9, hf, hr⟩ := rk_loop_s hf
    exact b_X9_init_l92 hd hf (fun _ _ _ _ _ _ h9 => by subst h9; exact ih _ _ _ _ _ _ hr) (fun _ _ _ _ _ _ h9 => by subst h9; exact he _ _ _ _ _ _ hr.symm)
noncomputable def f_X9_init_l118 (S : rk_Sh) (I : rk_I) (J : rk_J) (R : rk_R) (s1 : Int32) : Option ((Int32 × rk_I) ⊕ (Int32 × rk_I)) :=
(f_J0_length_8abf5_1000001 ).bind fun x1 =>
if x1 ≤ s1 then (
some (.inr (s1, I))) else (
(rk_ck S 0 8 17).bind fun _ =>
(rk_ckR R 0 7 4).bind fun _ =>
(f_J0_charAt_5068e_1000001 s1).bind fun x2 =>
(rk_ck S 4 2 10).bind fun _ =>
(rk_layC S R).bind fun _ =>
(f_X2_put I x2).bind fun I1 =>
some (.inl ((s1 + 1), I1)))
theorem b_X9_init_l118 {G : rk_G} {l : Launch} {d : Nat} {n : Nat} {S : rk_Sh} {I : rk_I} {J : rk_J} {R : rk_R} {Q : rk_Q} {s1 : Int32} {r : (Int32 × rk_I) ⊕ (Int32 × rk_I)} (hd : 65 ≤ d) (hf : f_X9_init_l118 S I J R s1 = some r) (hc : ∀ (w0 : Int32) (I9 : rk_I), r = .inl (w0, I9) → AW G l yX9_init cX9_init 2 none d 3 322 118 [some (.ref 0), some (.int w0)] [] n S I9 J R Q) (he : ∀ (w0 : Int32) (I9 : rk_I), r = .inr (w0, I9) → AW G l yX9_init cX9_init 2 none d 3 322 146 [some (.ref 0), some (.int w0)] [] n S I9 J R Q) :
    AW G l yX9_init cX9_init 2 none d 3 322 118 [some (.ref 0), some (.int s1)] [] n S I J R Q := by
  unfold f_X9_init_l118 at hf
  refine AW_iload_n1 dX9_init_118 ?_
  refine AW_ldcS0 rfl dX9_init_119 ?_
  obtain ⟨x1, e1, hf⟩ := rk_bd hf
  refine AW_iY0iz 0 (w_J0_length_8abf5_1000001 (d := 1) (Nat.le_refl _) e1) dX9_init_121 kl_X9_68 (by decide) rfl (Nat.le_trans (by decide) hd) (by decide) (Nat.le_of_ble_eq_true rfl) (fun _ => ?_)
  refine AW_icmp_ge 146 dX9_init_124 (by decide) (fun h1 => ?_) (fun h1 => ?_)
  · have hf := rk_it hf h1
    refine AW_sb (rk_sbs (rk_sbs rk_sb0)) ?_
    exact he _ _ (Option.some.inj hf).symm
  · have hf := rk_if hf h1
    refine AW_aload_n0 dX9_init_127 ?_
    obtain ⟨_, e2, hf⟩ := rk_bd hf
    have e2 := rk_ck_sp e2
    obtain ⟨_, e3, hf⟩ := rk_bd hf
    have e3 := rk_ckR_sp e3
    refine AW_getR dX9_init_128 kf_X9_30 rfl e2 (by decide) e3 ?_
    refine AW_ldcS0 rfl dX9_init_131 ?_
    refine AW_iload_n1 dX9_init_133 ?_
    obtain ⟨x2, e4, hf⟩ := rk_bd hf
    refine AW_iY1iz 0 (w_J0_charAt_5068e_1000001 (d := 3) (Nat.le_refl _) e4) dX9_init_134 kl_X9_74 (by decide) rfl (Nat.le_trans (by decide) hd) (by decide) (Nat.le_of_ble_eq_true rfl) (fun _ => ?_)
    obtain ⟨_, e5, hf⟩ := rk_bd hf
    have e5 := rk_ck_sp e5
    obtain ⟨_, e6, hf⟩ := rk_bd hf
    have e6 := rk_layC_sp e6
    obtain ⟨I1, e7, hf⟩ := rk_bd hf
    refine AW_iV1vz (w_X2_put (d := 0) e6 e7) dX9_init_137 kl_X9_78 e5 rfl (Nat.le_trans (by decide) hd) (by decide) (Nat.le_of_ble_eq_true rfl) (fun _ => ?_)
    refine AW_iinc_1 (v := 1) dX9_init_140 (by decide) (by decide) rfl ?_
    refine AW_goto 118 dX9_init_143 (by decide) ?_
    refine AW_sb (rk_sbs (rk_sbs rk_sb0)) ?_
    exact hc _ _ (Option.some.inj hf).symm
theorem L_X9_init_w118 {G : rk_G} {l : Launch} {d : Nat} {n : Nat} {S : rk_Sh} {J : rk_J} {R : rk_R} {Q : rk_Q}  {r : Int32 × rk_I} (hd : 65 ≤ d) (he : ∀ (w0 : Int32) (I9 : rk_I), r = (w0, I9) → AW G l yX9_init cX9_init 2 none d 3 322 146 [some (.ref 0), some (.int w0)] [] n S I9 J R Q) :
    ∀ (m9 : Nat) (s1 : Int32) (I : rk_I), rk_loop (fun a9 => f_X9_init_l118 S a9.2 J R a9.1) m9 (s1, I) = some r → AW G l yX9_init cX9_init 2 none d 3 322 118 [some (.ref 0), some (.int s1)] [] n S I J R Q := by
  intro m9
  induction m9 with
  | zero => intro s1 I hf; cases hf
  | succ m9 ih =>
    intro s1 I hf 
    obtain ⟨r9, hf, hr⟩ := rk_loop_s hf
    exact b_X9_init_l118 hd hf (fun _ _ h9 => by subst h9; exact ih _ _ hr) (fun _ _ h9 => by subst h9; exact he _ _ hr.symm)
noncomputable def f_X9_init (S : rk_Sh) (I : rk_I) (J : rk_J) (R : rk_R)  : Option (Nat × rk_Sh × rk_I × rk_J × rk_R) :=
(some (rk_sh S 1 22 4)).bind fun S1 =>
(some (rk_zi I 1)).bind fun I1 =>
(some (rk_zj J 1)).bind fun J1 =>
(some (rk_zr R 1)).bind fun R1 =>
(rk_ck S1 0 8 17).bind fun _ =>
(some (rk_ur R1 0 0 (some 1))).bind fun R2 =>
(some (rk_sh S1 2 23 24)).bind fun S2 =>
(some (rk_zi I1 2)).bind fun I2 =>
(some (rk_zj J1 2)).bind fun J2 =>
(some (rk_zr R2 2)).bind fun R3 =>
(rk_ck S2 0 8 17).bind fun _ =>
(some (rk_ur R3 0 2 (some 2))).bind fun R4 =>
(some (rk_sh S2 3 24 6)).bind fun S3 =>
(some (rk_zi I2 3)).bind fun I3 =>
(some (rk_zj J2 3)).bind fun J3 =>
(some (rk_zr R4 3)).bind fun R5 =>
(rk_ck S3 0 8 17).bind fun _ =>
(some (rk_ur R5 0 4 (some 3))).bind fun R6 =>
(some (rk_sh S3 4 2 10)).bind fun S4 =>
(some (rk_zi I3 4)).bind fun I4 =>
(some (rk_zj J3 4)).bind fun J4 =>
(some (rk_zr R6 4)).bind fun R7 =>
rk_b5 (f_X2_init S4 I4 J4 R7) fun n1 S5 I5 J5 R8 =>
(rk_ck S5 0 8 17).bind fun _ =>
(some (rk_ur R8 0 7 (some 4))).bind fun R9 =>
(rk_nck n1).bind fun _ =>
(some (rk_sh S5 n1 3 2)).bind fun S6 =>
(some (rk_zi I5 n1)).bind fun I6 =>
(some (rk_zj J5 n1)).bind fun J6 =>
(some (rk_zr R9 n1)).bind fun R10 =>
rk_b5 (f_X3_init (n1 + 1) S6 I6 J6 R10 n1) fun n2 S7 I7 J7 R11 =>
(rk_ck S6 n1 3 2).bind fun _ =>
(rk_ck S7 0 8 17).bind fun _ =>
(some (rk_ur R11 0 8 (some n1))).bind fun R12 =>
(rk_nck n2).bind fun _ =>
(some (rk_sh S7 n2 1 5)).bind fun S8 =>
(some (rk_zi I7 n2)).bind fun I8 =>
(some (rk_zj J7 n2)).bind fun J8 =>
(some (rk_zr R12 n2)).bind fun R13 =>
rk_b5 (f_X1_init (n2 + 1) S8 I8 J8 R13 n2) fun n3 S9 I9 J9 R14 =>
(rk_ck S8 n2 1 5).bind fun _ =>
(rk_ck S9 0 8 17).bind fun _ =>
(some (rk_ur R14 0 9 (some n2))).bind fun R15 =>
(rk_nck n3).bind fun _ =>
(some (rk_sh S9 n3 4 4)).bind fun S10 =>
(some (rk_zi I9 n3)).bind fun I10 =>
(some (rk_zj J9 n3)).bind fun J10 =>
(some (rk_zr R15 n3)).bind fun R16 =>
rk_b5 (f_X4_init (n3 + 1) S10 I10 J10 R16 n3) fun n4 S11 I11 J11 R17 =>
(rk_ck S10 n3 4 4).bind fun _ =>
(rk_ck S11 0 8 17).bind fun _ =>
(some (rk_ur R17 0 10 (some n3))).bind fun R18 =>
(rk_nck n4).bind fun _ =>
(some (rk_sh S11 n4 25 4)).bind fun S12 =>
(some (rk_zi I11 n4)).bind fun I12 =>
(some (rk_zj J11 n4)).bind fun J12 =>
(some (rk_zr R18 n4)).bind fun R19 =>
(rk_ck S12 0 8 17).bind fun _ =>
(some (rk_ur R19 0 11 (some n4))).bind fun R20 =>
(rk_nck (n4 + 1)).bind fun _ =>
(some (rk_sh S12 (n4 + 1) 20 10)).bind fun S13 =>
(some (rk_zi I12 (n4 + 1))).bind fun I13 =>
(some (rk_zj J12 (n4 + 1))).bind fun J13 =>
(some (rk_zr R20 (n4 + 1))).bind fun R21 =>
(rk_ck S13 0 8 17).bind fun _ =>
(some (rk_ur R21 0 12 (some (n4 + 1)))).bind fun R22 =>
rk_b6 (rk_while (fun a9 => f_X9_init_l92 a9.2.2.1 a9.2.2.2.1 a9.2.2.2.2.1 a9.2.2.2.2.2 a9.1) (0, ((n4 + 1) + 1), S13, I13, J13, R22)) fun x1 n5 S14 I14 J14 R23 =>
rk_b2 (rk_while (fun a9 => f_X9_init_l118 S14 a9.2 J14 R23 a9.1) (0, I14)) fun x2 I15 =>
(rk_ck S14 0 8 17).bind fun _ =>
(rk_ckR R23 0 7 4).bind fun _ =>
(rk_ck S14 4 2 10).bind fun _ =>
(rk_layC S14 R23).bind fun _ =>
rk_b2 (f_X2_read I15) fun x3 I16 =>
(rk_ckR R23 0 4 3).bind fun _ =>
(rk_ckR R23 0 7 4).bind fun _ =>
rk_b6 (f_X2_asText n5 S14 I16 J14 R23) fun o1 n6 S15 I17 J15 R24 =>
(rk_ck S15 3 24 6).bind fun _ =>
(rk_ck S15 o1 7 2).bind fun _ =>
(rk_wrR R24 3 6 0 o1).bind fun R25 =>
(rk_ck S15 0 8 17).bind fun _ =>
(some (rk_ui I17 0 5 1)).bind fun I18 =>
(rk_ckR R25 0 7 4).bind fun _ =>
(rk_ck S15 4 2 10).bind fun _ =>
(rk_layC S15 R25).bind fun _ =>
(f_X2_empty I18).bind fun I19 =>
some (n6, S15, I19, J15, R25)
theorem b_X9_init {G : rk_G} {l : Launch} {d : Nat} {n : Nat} {S : rk_Sh} {I : rk_I} {J : rk_J} {R : rk_R} {Q : rk_Q}  {r : Nat × rk_Sh × rk_I × rk_J × rk_R} (hd : 65 ≤ d) (hL : rk_LC S R) (hf : f_X9_init S I J R = some r) (hq : ∀ (n9 : Nat) (S9 : rk_Sh) (I9 : rk_I) (J9 : rk_J) (R9 : rk_R), r = (n9, S9, I9, J9, R9) → rk_LC S9 R9 → Q (none) n9 S9 I9 J9 R9) :
    AW G l yX9_init cX9_init 2 none d 22 1264 0 [some (.ref 0), none] [] 1 S I J R Q := by
  unfold f_X9_init at hf
  refine AW_aload_n0 dX9_init_0 ?_
  refine AW_objInit dX9_init_1 ko_X9_1 (Nat.le_trans (by decide) hd) (Nat.le_of_ble_eq_true rfl) ?_
  refine AW_aload_n0 dX9_init_4 ?_
  refine AW_iconst (v := 4) dX9_init_5 (by decide) ?_
  obtain ⟨S1, e2, hf⟩ := rk_bd hf
  obtain ⟨I1, e3, hf⟩ := rk_bd hf
  obtain ⟨J1, e4, hf⟩ := rk_bd hf
  obtain ⟨R1, e5, hf⟩ := rk_bd hf
  refine AW_nwQ (N := 4) dX9_init_6 (Or.inl rfl) kw_X9_9 (by decide) (by decide) (by decide) (by decide) e2 e3 e4 e5 ?_
  obtain ⟨_, e6, hf⟩ := rk_bd hf
  have e6 := rk_ck_sp e6
  obtain ⟨R2, e7, hf⟩ := rk_bd hf
  refine AW_puAF dX9_init_9 kf_X9_11 rfl e6 (by decide) rfl rfl e7 ?_
  refine AW_aload_n0 dX9_init_12 ?_
  refine AW_bipush (v := 24) dX9_init_13 (by decide) ?_
  obtain ⟨S2, e9, hf⟩ := rk_bd hf
  obtain ⟨I2, e10, hf⟩ := rk_bd hf
  obtain ⟨J2, e11, hf⟩ := rk_bd hf
  obtain ⟨R3, e12, hf⟩ := rk_bd hf
  refine AW_nwQ (N := 24) dX9_init_15 (Or.inr (Or.inl rfl)) kw_X9_15 (by decide) (by decide) (by decide) (by decide) e9 e10 e11 e12 ?_
  obtain ⟨_, e13, hf⟩ := rk_bd hf
  have e13 := rk_ck_sp e13
  obtain ⟨R4, e14, hf⟩ := rk_bd hf
  refine AW_puAF dX9_init_18 kf_X9_17 rfl e13 (by decide) rfl rfl e14 ?_
  refine AW_aload_n0 dX9_init_21 ?_
  refine AW_bipush (v := 6) dX9_init_22 (by decide) ?_
  obtain ⟨S3, e16, hf⟩ := rk_bd hf
  obtain ⟨I3, e17, hf⟩ := rk_bd hf
  obtain ⟨J3, e18, hf⟩ := rk_bd hf
  obtain ⟨R5, e19, hf⟩ := rk_bd hf
  refine AW_nwQ (N := 6) dX9_init_24 (Or.inr (Or.inr (Or.inl rfl))) kw_X9_21 (by decide) (by decide) (by decide) (by decide) e16 e17 e18 e19 ?_
  obtain ⟨_, e20, hf⟩ := rk_bd hf
  have e20 := rk_ck_sp e20
  obtain ⟨R6, e21, hf⟩ := rk_bd hf
  refine AW_puAF dX9_init_27 kf_X9_23 rfl e20 (by decide) rfl rfl e21 ?_
  refine AW_aload_n0 dX9_init_30 ?_
  obtain ⟨S4, e23, hf⟩ := rk_bd hf
  obtain ⟨I4, e24, hf⟩ := rk_bd hf
  obtain ⟨J4, e25, hf⟩ := rk_bd hf
  obtain ⟨R7, e26, hf⟩ := rk_bd hf
  refine AW_nwO dX9_init_31 kc_X9_27 (by decide) e23 e24 e25 e26 ?_
  refine AW_dup dX9_init_34 rfl ?_
  obtain ⟨n1, S5, I5, J5, R8, e27, hf⟩ := rk_bd5 hf
  refine AW_iN0v (w_X2_init (d := 1) (Nat.le_refl _) e27) dX9_init_35 kl_X9_29 (Nat.le_trans (by decide) hd) (by decide) (Nat.le_of_ble_eq_true rfl) (fun _ => ?_)
  obtain ⟨_, e28, hf⟩ := rk_bd hf
  have e28 := rk_ck_sp e28
  obtain ⟨R9, e29, hf⟩ := rk_bd hf
  refine AW_puRF dX9_init_38 kf_X9_30 rfl e28 (by decide) rfl rfl e29 ?_
  refine AW_aload_n0 dX9_init_41 ?_
  obtain ⟨_, e30, hf⟩ := rk_bd hf
  have e30 := rk_nck_sp e30
  obtain ⟨S6, e31, hf⟩ := rk_bd hf
  obtain ⟨I6, e32, hf⟩ := rk_bd hf
  obtain ⟨J6, e33, hf⟩ := rk_bd hf
  obtain ⟨R10, e34, hf⟩ := rk_bd hf
  refine AW_nwO dX9_init_42 kc_X9_34 e30 e31 e32 e33 e34 ?_
  refine AW_dup dX9_init_45 rfl ?_
  obtain ⟨n2, S7, I7, J7, R11, e35, hf⟩ := rk_bd5 hf
  obtain ⟨_, e36, hf⟩ := rk_bd hf
  have e36 := rk_ck_sp e36
  refine AW_iN0v (w_X3_init (d := 1) (Nat.le_refl _) e36 e35) dX9_init_46 kl_X9_36 (Nat.le_trans (by decide) hd) (by decide) (Nat.le_of_ble_eq_true rfl) (fun _ => ?_)
  obtain ⟨_, e37, hf⟩ := rk_bd hf
  have e37 := rk_ck_sp e37
  obtain ⟨R12, e38, hf⟩ := rk_bd hf
  refine AW_puRF dX9_init_49 kf_X9_37 rfl e37 (by decide) rfl rfl e38 ?_
  refine AW_aload_n0 dX9_init_52 ?_
  obtain ⟨_, e39, hf⟩ := rk_bd hf
  have e39 := rk_nck_sp e39
  obtain ⟨S8, e40, hf⟩ := rk_bd hf
  obtain ⟨I8, e41, hf⟩ := rk_bd hf
  obtain ⟨J8, e42, hf⟩ := rk_bd hf
  obtain ⟨R13, e43, hf⟩ := rk_bd hf
  refine AW_nwO dX9_init_53 kc_X9_41 e39 e40 e41 e42 e43 ?_
  refine AW_dup dX9_init_56 rfl ?_
  obtain ⟨n3, S9, I9, J9, R14, e44, hf⟩ := rk_bd5 hf
  obtain ⟨_, e45, hf⟩ := rk_bd hf
  have e45 := rk_ck_sp e45
  refine AW_iN0v (w_X1_init (d := 1) (Nat.le_refl _) e45 e44) dX9_init_57 kl_X9_43 (Nat.le_trans (by decide) hd) (by decide) (Nat.le_of_ble_eq_true rfl) (fun _ => ?_)
  obtain ⟨_, e46, hf⟩ := rk_bd hf
  have e46 := rk_ck_sp e46
  obtain ⟨R15, e47, hf⟩ := rk_bd hf
  refine AW_puRF dX9_init_60 kf_X9_44 rfl e46 (by decide) rfl rfl e47 ?_
  refine AW_aload_n0 dX9_init_63 ?_
  obtain ⟨_, e48, hf⟩ := rk_bd hf
  have e48 := rk_nck_sp e48
  obtain ⟨S10, e49, hf⟩ := rk_bd hf
  obtain ⟨I10, e50, hf⟩ := rk_bd hf
  obtain ⟨J10, e51, hf⟩ := rk_bd hf
  obtain ⟨R16, e52, hf⟩ := rk_bd hf
  refine AW_nwO dX9_init_64 kc_X9_48 e48 e49 e50 e51 e52 ?_
  refine AW_dup dX9_init_67 rfl ?_
  obtain ⟨n4, S11, I11, J11, R17, e53, hf⟩ := rk_bd5 hf
  obtain ⟨_, e54, hf⟩ := rk_bd hf
  have e54 := rk_ck_sp e54
  refine AW_iN0v (w_X4_init (d := 1) (Nat.le_refl _) e54 e53) dX9_init_68 kl_X9_50 (Nat.le_trans (by decide) hd) (by decide) (Nat.le_of_ble_eq_true rfl) (fun _ => ?_)
  obtain ⟨_, e55, hf⟩ := rk_bd hf
  have e55 := rk_ck_sp e55
  obtain ⟨R18, e56, hf⟩ := rk_bd hf
  refine AW_puRF dX9_init_71 kf_X9_51 rfl e55 (by decide) rfl rfl e56 ?_
  refine AW_aload_n0 dX9_init_74 ?_
  refine AW_iconst (v := 4) dX9_init_75 (by decide) ?_
  obtain ⟨_, e57, hf⟩ := rk_bd hf
  have e57 := rk_nck_sp e57
  obtain ⟨S12, e58, hf⟩ := rk_bd hf
  obtain ⟨I12, e59, hf⟩ := rk_bd hf
  obtain ⟨J12, e60, hf⟩ := rk_bd hf
  obtain ⟨R19, e61, hf⟩ := rk_bd hf
  refine AW_nwQ (N := 4) dX9_init_76 (Or.inr (Or.inr (Or.inr rfl))) kw_X9_55 (by decide) (by decide) (by decide) e57 e58 e59 e60 e61 ?_
  obtain ⟨_, e62, hf⟩ := rk_bd hf
  have e62 := rk_ck_sp e62
  obtain ⟨R20, e63, hf⟩ := rk_bd hf
  refine AW_puAF dX9_init_79 kf_X9_57 rfl e62 (by decide) rfl rfl e63 ?_
  refine AW_aload_n0 dX9_init_82 ?_
  refine AW_bipush (v := 10) dX9_init_83 (by decide) ?_
  obtain ⟨_, e64, hf⟩ := rk_bd hf
  have e64 := rk_nck_sp e64
  obtain ⟨S13, e65, hf⟩ := rk_bd hf
  obtain ⟨I13, e66, hf⟩ := rk_bd hf
  obtain ⟨J13, e67, hf⟩ := rk_bd hf
  obtain ⟨R21, e68, hf⟩ := rk_bd hf
  refine AW_nwI (N := 10) dX9_init_85 kA_int (by decide) (by decide) (by decide) e64 e65 e66 e67 e68 ?_
  obtain ⟨_, e69, hf⟩ := rk_bd hf
  have e69 := rk_ck_sp e69
  obtain ⟨R22, e70, hf⟩ := rk_bd hf
  refine AW_puAF dX9_init_87 kf_X9_61 rfl e69 (by decide) rfl rfl e70 ?_
  refine AW_iconst (v := 0) dX9_init_90 (by decide) ?_
  refine AW_istore_n1 dX9_init_91 (by decide) rfl ?_
  refine AW_sb (rk_sbs (rk_sbs rk_sb0)) ?_
  obtain ⟨x1, n5, S14, I14, J14, R23, e71, hf⟩ := rk_bd6 hf
  obtain ⟨m1, e71⟩ := rk_while_sp e71
  refine L_X9_init_w92 (Nat.le_trans (by decide) hd) ?_ m1 _ _ _ _ _ _ e71
  intro x1 n5 S14 I14 J14 R23 h9
  cases h9
  refine AW_iconst (v := 0) dX9_init_116 (by decide) ?_
  refine AW_istore_n1 dX9_init_117 (by decide) rfl ?_
  refine AW_sb (rk_sbs (rk_sbs rk_sb0)) ?_
  obtain ⟨x2, I15, e72, hf⟩ := rk_bd2 hf
  obtain ⟨m2, e72⟩ := rk_while_sp e72
  refine L_X9_init_w118 (Nat.le_trans (by decide) hd) ?_ m2 _ _ e72
  intro x2 I15 h9
  cases h9
  refine AW_aload_n0 dX9_init_146 ?_
  obtain ⟨_, e73, hf⟩ := rk_bd hf
  have e73 := rk_ck_sp e73
  obtain ⟨_, e74, hf⟩ := rk_bd hf
  have e74 := rk_ckR_sp e74
  refine AW_getR dX9_init_147 kf_X9_30 rfl e73 (by decide) e74 ?_
  obtain ⟨_, e75, hf⟩ := rk_bd hf
  have e75 := rk_ck_sp e75
  obtain ⟨_, e76, hf⟩ := rk_bd hf
  have e76 := rk_layC_sp e76
  obtain ⟨x3, I16, e77, hf⟩ := rk_bd2 hf
  refine AW_iV0iz (w_X2_read (d := 64) (Nat.le_refl _) e76 e77) dX9_init_150 kl_X9_82 e75 rfl (Nat.le_trans (by decide) hd) (by decide) (Nat.le_of_ble_eq_true rfl) (fun _ => ?_)
  refine AW_pop dX9_init_153 rfl ?_
  refine AW_aload_n0 dX9_init_154 ?_
  obtain ⟨_, e78, hf⟩ := rk_bd hf
  have e78 := rk_ckR_sp e78
  refine AW_getR dX9_init_155 kf_X9_23 rfl e73 (by decide) e78 ?_
  refine AW_iconst (v := 0) dX9_init_158 (by decide) ?_
  refine AW_aload_n0 dX9_init_159 ?_
  obtain ⟨_, e79, hf⟩ := rk_bd hf
  have e79 := rk_ckR_sp e79
  refine AW_getR dX9_init_160 kf_X9_30 rfl e73 (by decide) e79 ?_
  obtain ⟨o1, n6, S15, I17, J15, R24, e80, hf⟩ := rk_bd6 hf
  refine AW_iV0r (w_X2_asText (d := 2) (Nat.le_refl _) e76 e80) dX9_init_163 kl_X9_85 e75 rfl (Nat.le_trans (by decide) hd) (by decide) (Nat.le_of_ble_eq_true rfl) (fun _ => ?_)
  obtain ⟨_, e81, hf⟩ := rk_bd hf
  have e81 := rk_ck_sp e81
  obtain ⟨_, e82, hf⟩ := rk_bd hf
  have e82 := rk_ck_sp e82
  obtain ⟨R25, e83, hf⟩ := rk_bd hf
  refine AW_wrR dX9_init_166 e81 (Or.inr (Or.inr (Or.inl rfl))) e82 e83 ?_
  refine AW_aload_n0 dX9_init_167 ?_
  refine AW_iconst (v := 1) dX9_init_168 (by decide) ?_
  obtain ⟨_, e84, hf⟩ := rk_bd hf
  have e84 := rk_ck_sp e84
  obtain ⟨I18, e85, hf⟩ := rk_bd hf
  refine AW_puI dX9_init_169 kf_X9_89 rfl e84 (by decide) e85 ?_
  refine AW_aload_n0 dX9_init_172 ?_
  obtain ⟨_, e86, hf⟩ := rk_bd hf
  have e86 := rk_ckR_sp e86
  refine AW_getR dX9_init_173 kf_X9_30 rfl e84 (by decide) e86 ?_
  obtain ⟨_, e87, hf⟩ := rk_bd hf
  have e87 := rk_ck_sp e87
  obtain ⟨_, e88, hf⟩ := rk_bd hf
  have e88 := rk_layC_sp e88
  obtain ⟨I19, e89, hf⟩ := rk_bd hf
  refine AW_iV0vz (w_X2_empty (d := 0) e88 e89) dX9_init_176 kl_X9_93 e87 rfl (Nat.le_trans (by decide) hd) (by decide) (Nat.le_of_ble_eq_true rfl) (fun _ => ?_)
  exact AW_vret dX9_init_179 rfl (hq _ _ _ _ _ (Option.some.inj hf).symm e88)
theorem w_X9_init {G : rk_G} {l : Launch} {d : Nat} {n : Nat} {S : rk_Sh} {I : rk_I} {J : rk_J} {R : rk_R}  {n8 : Nat} {S8 : rk_Sh} {I8 : rk_I} {J8 : rk_J} {R8 : rk_R} (hd : 65 ≤ d) (hL : rk_LC S R) (hf : f_X9_init S I J R = some (n8, S8, I8, J8, R8)) :
    CW G l yX9_init cX9_init 2 none d 22 1264 [.ref 0] 1 S I J R (rk_qv n8 S8 I8 J8 R8 (rk_LC S8 R8)) :=
  CW.of (by decide +kernel) (Nat.le_of_ble_eq_true rfl) (rk_sbs (rk_sbe rk_sb0)) (b_X9_init hd hL hf (fun n9 S9 I9 J9 R9 h9 hl9 => by cases h9; exact ⟨rfl, rfl, rfl, rfl, rfl, rfl, hl9⟩))
noncomputable def f_X10_spell_l3 (I : rk_I) (u1 : Int32) (u2 : Int64) (s4 : Int32) : Option ((Int32 × rk_I) ⊕ (Int32 × rk_I)) :=
if 8 ≤ s4 then (
some (.inr (s4, I))) else (
(rk_wr I 32 960 (u1 + s4) (Int64.toInt32 ((rk_lsr u2 (56 - (8 * s4))) &&& 255))).bind fun I1 =>
some (.inl ((s4 + 1), I1)))
theorem b_X10_spell_l3 {G : rk_G} {l : Launch} {d kc ks : Nat} {n : Nat} {S : rk_Sh} {I : rk_I} {J : rk_J} {R : rk_R} {Q : rk_Q} {u1 : Int32} {u2 : Int64} {s4 : Int32} {r : (Int32 × rk_I) ⊕ (Int32 × rk_I)} (hM : rk_LM S R) (hf : f_X10_spell_l3 I u1 u2 s4 = some r) (hc : ∀ (w0 : Int32) (I9 : rk_I), r = .inl (w0, I9) → AW G l yX10_spell cX10_spell 5 none d kc ks 3 [some (.ref 31), some (.int u1), some (.long u2), none, some (.int w0)] [] n S I9 J R Q) (he : ∀ (w0 : Int32) (I9 : rk_I), r = .inr (w0, I9) → AW G l yX10_spell cX10_spell 5 none d kc ks 40 [some (.ref 31), some (.int u1), some (.long u2), none, some (.int w0)] [] n S I9 J R Q) :
    AW G l yX10_spell cX10_spell 5 none d kc ks 3 [some (.ref 31), some (.int u1), some (.long u2), none, some (.int s4)] [] n S I J R Q := by
  unfold f_X10_spell_l3 at hf
  refine AW_iload_4 dX10_spell_3 ?_
  refine AW_bipush (v := 8) dX10_spell_5 (by decide) ?_
  refine AW_icmp_ge 40 dX10_spell_7 (by decide) (fun h1 => ?_) (fun h1 => ?_)
  · have hf := rk_it hf h1
    refine AW_sb (rk_sbs (rk_sbs (rk_sbs (rk_sbs (rk_sbs rk_sb0))))) ?_
    exact he _ _ (Option.some.inj hf).symm
  · have hf := rk_if hf h1
    refine AW_aload_n0 dX10_spell_10 ?_
    refine AW_getR dX10_spell_11 kf_X10_13 rfl (hM.1 31 (by decide) (by decide)) (by decide) (hM.2 31 1 32 rfl) ?_
    refine AW_iload_n1 dX10_spell_14 ?_
    refine AW_iload_4 dX10_spell_15 ?_
    refine AW_iadd dX10_spell_17 ?_
    refine AW_lload_n2 dX10_spell_18 ?_
    refine AW_bipush (v := 56) dX10_spell_19 (by decide) ?_
    refine AW_bipush (v := 8) dX10_spell_21 (by decide) ?_
    refine AW_iload_4 dX10_spell_23 ?_
    refine AW_imul dX10_spell_25 ?_
    refine AW_isub dX10_spell_26 ?_
    refine AW_lsr dX10_spell_27 ?_
    refine AW_ldc2 dX10_spell_28 kv_X10_109 ?_
    refine AW_land dX10_spell_31 ?_
    refine AW_l2i dX10_spell_32 ?_
    obtain ⟨I1, e1, hf⟩ := rk_bd hf
    refine AW_wr dX10_spell_33 (hM.1 32 (by decide) (by decide)) e1 ?_
    refine AW_iinc_4 (v := 1) dX10_spell_34 (by decide) (by decide) rfl ?_
    refine AW_goto 3 dX10_spell_37 (by decide) ?_
    refine AW_sb (rk_sbs (rk_sbs (rk_sbs (rk_sbs (rk_sbs rk_sb0))))) ?_
    exact hc _ _ (Option.some.inj hf).symm
theorem L_X10_spell_w3 {G : rk_G} {l : Launch} {d kc ks : Nat} {n : Nat} {S : rk_Sh} {J : rk_J} {R : rk_R} {Q : rk_Q} {u1 : Int32} {u2 : Int64} {r : Int32 × rk_I} (hM : rk_LM S R) (he : ∀ (w0 : Int32) (I9 : rk_I), r = (w0, I9) → AW G l yX10_spell cX10_spell 5 none d kc ks 40 [some (.ref 31), some (.int u1), some (.long u2), none, some (.int w0)] [] n S I9 J R Q) :
    ∀ (m9 : Nat) (s4 : Int32) (I : rk_I), rk_loop (fun a9 => f_X10_spell_l3 a9.2 u1 u2 a9.1) m9 (s4, I) = some r → AW G l yX10_spell cX10_spell 5 none d kc ks 3 [some (.ref 31), some (.int u1), some (.long u2), none, some (.int s4)] [] n S I J R Q := by
  intro m9
  induction m9 with
  | zero => intro s4 I hf; cases hf
  | succ m9 ih =>
    intro s4 I hf 
    obtain ⟨r9, hf, hr⟩ := rk_loop_s hf
    exact b_X10_spell_l3 hM hf (fun _ _ h9 => by subst h9; exact ih _ _ hr) (fun _ _ h9 => by subst h9; exact he _ _ hr.symm)
noncomputable def f_X10_spell (I : rk_I) (a1 : Int32) (a2 : Int64) : Option (rk_I) :=
rk_b2 (rk_while (fun a9 => f_X10_spell_l3 a9.2 a1 a2 a9.1) (0, I)) fun x1 I1 =>
some I1
theorem b_X10_spell {G : rk_G} {l : Launch} {d kc ks : Nat} {n : Nat} {S : rk_Sh} {I : rk_I} {J : rk_J} {R : rk_R} {Q : rk_Q} {a1 : Int32} {a2 : Int64} {r : rk_I} (hM : rk_LM S R) (hf : f_X10_spell I a1 a2 = some r) (hq : ∀ (I9 : rk_I), r = I9 → Q (none) n S I9 J R) :
    AW G l yX10_spell cX10_spell 5 none d kc ks 0 [some (.ref 31), some (.int a1), some (.long a2), none, none] [] n S I J R Q := by
  unfold f_X10_spell at hf
  refine AW_iconst (v := 0) dX10_spell_0 (by decide) ?_
  refine AW_istore_4 dX10_spell_1 (by decide) rfl ?_
  refine AW_sb (rk_sbs (rk_sbs (rk_sbs (rk_sbs (rk_sbs rk_sb0))))) ?_
  obtain ⟨x1, I1, e1, hf⟩ := rk_bd2 hf
  obtain ⟨m1, e1⟩ := rk_while_sp e1
  refine L_X10_spell_w3 hM ?_ m1 _ _ e1
  intro x1 I1 h9
  cases h9
  exact AW_vret dX10_spell_40 rfl (hq _ (Option.some.inj hf).symm)
theorem w_X10_spell {G : rk_G} {l : Launch} {d : Nat} {n : Nat} {S : rk_Sh} {I : rk_I} {J : rk_J} {R : rk_R} {a1 : Int32} {a2 : Int64} {I8 : rk_I} (hM : rk_LM S R) (hf : f_X10_spell I a1 a2 = some I8) :
    CW G l yX10_spell cX10_spell 5 none d 0 0 [.ref 31, .int a1, .long a2] n S I J R (rk_qv n S I8 J R True) :=
  CW.of (by decide +kernel) (Nat.le_of_ble_eq_true rfl) (rk_sbs (rk_sbs (rk_sbs (rk_sbs (rk_sbe rk_sb0))))) (b_X10_spell hM hf (fun I9 h9 => by cases h9; exact ⟨rfl, rfl, rfl, rfl, rfl, rfl, trivial⟩))
noncomputable def f_X10_init (S : rk_Sh) (I : rk_I) (J : rk_J) (R : rk_R)  : Option (Nat × rk_Sh × rk_I × rk_J × rk_R) :=
(some (rk_sh S 32 20 960)).bind fun S1 =>
(some (rk_zi I 32)).bind fun I1 =>
(some (rk_zj J 32)).bind fun J1 =>
(some (rk_zr R 32)).bind fun R1 =>
(rk_ck S1 31 9 46).bind fun _ =>
(some (rk_ur R1 31 1 (some 32))).bind fun R2 =>
(some (rk_sh S1 33 20 6)).bind fun S2 =>
(some (rk_zi I1 33)).bind fun I2 =>
(some (rk_zj J1 33)).bind fun J2 =>
(some (rk_zr R2 33)).bind fun R3 =>
(rk_ck S2 31 9 46).bind fun _ =>
(some (rk_ur R3 31 2 (some 33))).bind fun R4 =>
(some (rk_sh S2 34 20 160)).bind fun S3 =>
(some (rk_zi I2 34)).bind fun I3 =>
(some (rk_zj J2 34)).bind fun J3 =>
(some (rk_zr R4 34)).bind fun R5 =>
(rk_ck S3 31 9 46).bind fun _ =>
(some (rk_ur R5 31 5 (some 34))).bind fun R6 =>
(some (rk_sh S3 35 20 4)).bind fun S4 =>
(some (rk_zi I3 35)).bind fun I4 =>
(some (rk_zj J3 35)).bind fun J4 =>
(some (rk_zr R6 35)).bind fun R7 =>
(rk_ck S4 31 9 46).bind fun _ =>
(some (rk_ur R7 31 7 (some 35))).bind fun R8 =>
(some (rk_sh S4 36 20 4)).bind fun S5 =>
(some (rk_zi I4 36)).bind fun I5 =>
(some (rk_zj J4 36)).bind fun J5 =>
(some (rk_zr R8 36)).bind fun R9 =>
(rk_ck S5 31 9 46).bind fun _ =>
(some (rk_ur R9 31 8 (some 36))).bind fun R10 =>
(some (rk_sh S5 37 20 12)).bind fun S6 =>
(some (rk_zi I5 37)).bind fun I6 =>
(some (rk_zj J5 37)).bind fun J6 =>
(some (rk_zr R10 37)).bind fun R11 =>
(rk_ck S6 31 9 46).bind fun _ =>
(some (rk_ur R11 31 9 (some 37))).bind fun R12 =>
(some (rk_sh S6 38 20 24)).bind fun S7 =>
(some (rk_zi I6 38)).bind fun I7 =>
(some (rk_zj J6 38)).bind fun J7 =>
(some (rk_zr R12 38)).bind fun R13 =>
(rk_ck S7 31 9 46).bind fun _ =>
(some (rk_ur R13 31 11 (some 38))).bind fun R14 =>
(some (rk_sh S7 39 20 24)).bind fun S8 =>
(some (rk_zi I7 39)).bind fun I8 =>
(some (rk_zj J7 39)).bind fun J8 =>
(some (rk_zr R14 39)).bind fun R15 =>
(rk_ck S8 31 9 46).bind fun _ =>
(some (rk_ur R15 31 12 (some 39))).bind fun R16 =>
(some (rk_sh S8 40 20 24)).bind fun S9 =>
(some (rk_zi I8 40)).bind fun I9 =>
(some (rk_zj J8 40)).bind fun J9 =>
(some (rk_zr R16 40)).bind fun R17 =>
(rk_ck S9 31 9 46).bind fun _ =>
(some (rk_ur R17 31 13 (some 40))).bind fun R18 =>
(some (rk_sh S9 41 20 24)).bind fun S10 =>
(some (rk_zi I9 41)).bind fun I10 =>
(some (rk_zj J9 41)).bind fun J10 =>
(some (rk_zr R18 41)).bind fun R19 =>
(rk_ck S10 31 9 46).bind fun _ =>
(some (rk_ur R19 31 14 (some 41))).bind fun R20 =>
(some (rk_sh S10 42 20 24)).bind fun S11 =>
(some (rk_zi I10 42)).bind fun I11 =>
(some (rk_zj J10 42)).bind fun J11 =>
(some (rk_zr R20 42)).bind fun R21 =>
(rk_ck S11 31 9 46).bind fun _ =>
(some (rk_ur R21 31 15 (some 42))).bind fun R22 =>
(some (rk_sh S11 43 20 24)).bind fun S12 =>
(some (rk_zi I11 43)).bind fun I12 =>
(some (rk_zj J11 43)).bind fun J12 =>
(some (rk_zr R22 43)).bind fun R23 =>
(rk_ck S12 31 9 46).bind fun _ =>
(some (rk_ur R23 31 16 (some 43))).bind fun R24 =>
(some (rk_sh S12 44 20 24)).bind fun S13 =>
(some (rk_zi I12 44)).bind fun I13 =>
(some (rk_zj J12 44)).bind fun J13 =>
(some (rk_zr R24 44)).bind fun R25 =>
(rk_ck S13 31 9 46).bind fun _ =>
(some (rk_ur R25 31 17 (some 44))).bind fun R26 =>
(some (rk_sh S13 45 20 24)).bind fun S14 =>
(some (rk_zi I13 45)).bind fun I14 =>
(some (rk_zj J13 45)).bind fun J14 =>
(some (rk_zr R26 45)).bind fun R27 =>
(rk_ck S14 31 9 46).bind fun _ =>
(some (rk_ur R27 31 18 (some 45))).bind fun R28 =>
(some (rk_sh S14 46 20 24)).bind fun S15 =>
(some (rk_zi I14 46)).bind fun I15 =>
(some (rk_zj J14 46)).bind fun J15 =>
(some (rk_zr R28 46)).bind fun R29 =>
(rk_ck S15 31 9 46).bind fun _ =>
(some (rk_ur R29 31 19 (some 46))).bind fun R30 =>
(some (rk_sh S15 47 20 10)).bind fun S16 =>
(some (rk_zi I15 47)).bind fun I16 =>
(some (rk_zj J15 47)).bind fun J16 =>
(some (rk_zr R30 47)).bind fun R31 =>
(rk_ck S16 31 9 46).bind fun _ =>
(some (rk_ur R31 31 21 (some 47))).bind fun R32 =>
(some (rk_sh S16 48 20 24)).bind fun S17 =>
(some (rk_zi I16 48)).bind fun I17 =>
(some (rk_zj J16 48)).bind fun J17 =>
(some (rk_zr R32 48)).bind fun R33 =>
(rk_ck S17 31 9 46).bind fun _ =>
(some (rk_ur R33 31 22 (some 48))).bind fun R34 =>
(some (rk_sh S17 49 20 10)).bind fun S18 =>
(some (rk_zi I17 49)).bind fun I18 =>
(some (rk_zj J17 49)).bind fun J18 =>
(some (rk_zr R34 49)).bind fun R35 =>
(rk_ck S18 31 9 46).bind fun _ =>
(some (rk_ur R35 31 34 (some 49))).bind fun R36 =>
(some (rk_sh S18 50 20 12)).bind fun S19 =>
(some (rk_zi I18 50)).bind fun I19 =>
(some (rk_zj J18 50)).bind fun J19 =>
(some (rk_zr R36 50)).bind fun R37 =>
(rk_ck S19 31 9 46).bind fun _ =>
(some (rk_ur R37 31 35 (some 50))).bind fun R38 =>
(some (rk_sh S19 51 20 24)).bind fun S20 =>
(some (rk_zi I19 51)).bind fun I20 =>
(some (rk_zj J19 51)).bind fun J20 =>
(some (rk_zr R38 51)).bind fun R39 =>
(rk_ck S20 31 9 46).bind fun _ =>
(some (rk_ur R39 31 36 (some 51))).bind fun R40 =>
(some (rk_sh S20 52 20 24)).bind fun S21 =>
(some (rk_zi I20 52)).bind fun I21 =>
(some (rk_zj J20 52)).bind fun J21 =>
(some (rk_zr R40 52)).bind fun R41 =>
(rk_ck S21 31 9 46).bind fun _ =>
(some (rk_ur R41 31 37 (some 52))).bind fun R42 =>
(some (rk_sh S21 53 21 4)).bind fun S22 =>
(some (rk_zi I21 53)).bind fun I22 =>
(some (rk_zj J21 53)).bind fun J22 =>
(some (rk_zr R42 53)).bind fun R43 =>
(rk_ck S22 31 9 46).bind fun _ =>
(some (rk_ur R43 31 42 (some 53))).bind fun R44 =>
(some (rk_sh S22 54 20 4)).bind fun S23 =>
(some (rk_zi I22 54)).bind fun I23 =>
(some (rk_zj J22 54)).bind fun J23 =>
(some (rk_zr R44 54)).bind fun R45 =>
(rk_ck S23 31 9 46).bind fun _ =>
(some (rk_ur R45 31 43 (some 54))).bind fun R46 =>
(some (rk_sh S23 55 20 4)).bind fun S24 =>
(some (rk_zi I23 55)).bind fun I24 =>
(some (rk_zj J23 55)).bind fun J24 =>
(some (rk_zr R46 55)).bind fun R47 =>
(rk_ck S24 31 9 46).bind fun _ =>
(some (rk_ur R47 31 44 (some 55))).bind fun R48 =>
(some (rk_sh S24 56 20 160)).bind fun S25 =>
(some (rk_zi I24 56)).bind fun I25 =>
(some (rk_zj J24 56)).bind fun J25 =>
(some (rk_zr R48 56)).bind fun R49 =>
(rk_ck S25 31 9 46).bind fun _ =>
(some (rk_ur R49 31 45 (some 56))).bind fun R50 =>
(rk_layM S25 R50).bind fun _ =>
(f_X10_spell I25 0 7809651206517694524).bind fun I26 =>
(f_X10_spell I26 8 2335238957008170272).bind fun I27 =>
(f_X10_spell I27 16 3832598721210840436).bind fun I28 =>
(f_X10_spell I28 24 2319389246415402095).bind fun I29 =>
(f_X10_spell I29 32 8079572559423742012).bind fun I30 =>
(f_X10_spell I30 40 2319969673038274592).bind fun I31 =>
(rk_ckR R50 31 2 33).bind fun _ =>
(rk_ck S25 33 20 6).bind fun _ =>
(rk_wr I31 33 6 0 48).bind fun I32 =>
(some (rk_ui I32 31 3 1)).bind fun I33 =>
some (57, S25, I33, J25, R50)
theorem b_X10_init {G : rk_G} {l : Launch} {d : Nat} {n : Nat} {S : rk_Sh} {I : rk_I} {J : rk_J} {R : rk_R} {Q : rk_Q}  {r : Nat × rk_Sh × rk_I × rk_J × rk_R} (hd : 1 ≤ d) (hM : rk_LM S R) (hf : f_X10_init S I J R = some r) (hq : ∀ (n9 : Nat) (S9 : rk_Sh) (I9 : rk_I) (J9 : rk_J) (R9 : rk_R), r = (n9, S9, I9, J9, R9) → Q (none) n9 S9 I9 J9 R9) :
    AW G l yX10_init cX10_init 1 none d 25 1638 0 [some (.ref 31)] [] 32 S I J R Q := by
  unfold f_X10_init at hf
  refine AW_aload_n0 dX10_init_0 ?_
  refine AW_objInit dX10_init_1 ko_X10_7 (Nat.le_trans (by decide) hd) (Nat.le_of_ble_eq_true rfl) ?_
  refine AW_aload_n0 dX10_init_4 ?_
  refine AW_sipush (v := 960) dX10_init_5 (by decide) ?_
  obtain ⟨S1, e2, hf⟩ := rk_bd hf
  obtain ⟨I1, e3, hf⟩ := rk_bd hf
  obtain ⟨J1, e4, hf⟩ := rk_bd hf
  obtain ⟨R1, e5, hf⟩ := rk_bd hf
  refine AW_nwI (N := 960) dX10_init_8 kA_int (by decide) (by decide) (by decide) (by decide) e2 e3 e4 e5 ?_
  obtain ⟨_, e6, hf⟩ := rk_bd hf
  have e6 := rk_ck_sp e6
  obtain ⟨R2, e7, hf⟩ := rk_bd hf
  refine AW_puAF dX10_init_10 kf_X10_13 rfl e6 (by decide) rfl rfl e7 ?_
  refine AW_aload_n0 dX10_init_13 ?_
  refine AW_bipush (v := 6) dX10_init_14 (by decide) ?_
  obtain ⟨S2, e9, hf⟩ := rk_bd hf
  obtain ⟨I2, e10, hf⟩ := rk_bd hf
  obtain ⟨J2, e11, hf⟩ := rk_bd hf
  obtain ⟨R3, e12, hf⟩ := rk_bd hf
  refine AW_nwI (N := 6) dX10_init_16 kA_int (by decide) (by decide) (by decide) (by decide) e9 e10 e11 e12 ?_
  obtain ⟨_, e13, hf⟩ := rk_bd hf
  have e13 := rk_ck_sp e13
  obtain ⟨R4, e14, hf⟩ := rk_bd hf
  refine AW_puAF dX10_init_18 kf_X10_17 rfl e13 (by decide) rfl rfl e14 ?_
  refine AW_aload_n0 dX10_init_21 ?_
  refine AW_sipush (v := 160) dX10_init_22 (by decide) ?_
  obtain ⟨S3, e16, hf⟩ := rk_bd hf
  obtain ⟨I3, e17, hf⟩ := rk_bd hf
  obtain ⟨J3, e18, hf⟩ := rk_bd hf
  obtain ⟨R5, e19, hf⟩ := rk_bd hf
  refine AW_nwI (N := 160) dX10_init_25 kA_int (by decide) (by decide) (by decide) (by decide) e16 e17 e18 e19 ?_
  obtain ⟨_, e20, hf⟩ := rk_bd hf
  have e20 := rk_ck_sp e20
  obtain ⟨R6, e21, hf⟩ := rk_bd hf
  refine AW_puAF dX10_init_27 kf_X10_20 rfl e20 (by decide) rfl rfl e21 ?_
  refine AW_aload_n0 dX10_init_30 ?_
  refine AW_iconst (v := 4) dX10_init_31 (by decide) ?_
  obtain ⟨S4, e23, hf⟩ := rk_bd hf
  obtain ⟨I4, e24, hf⟩ := rk_bd hf
  obtain ⟨J4, e25, hf⟩ := rk_bd hf
  obtain ⟨R7, e26, hf⟩ := rk_bd hf
  refine AW_nwI (N := 4) dX10_init_32 kA_int (by decide) (by decide) (by decide) (by decide) e23 e24 e25 e26 ?_
  obtain ⟨_, e27, hf⟩ := rk_bd hf
  have e27 := rk_ck_sp e27
  obtain ⟨R8, e28, hf⟩ := rk_bd hf
  refine AW_puAF dX10_init_34 kf_X10_23 rfl e27 (by decide) rfl rfl e28 ?_
  refine AW_aload_n0 dX10_init_37 ?_
  refine AW_iconst (v := 4) dX10_init_38 (by decide) ?_
  obtain ⟨S5, e30, hf⟩ := rk_bd hf
  obtain ⟨I5, e31, hf⟩ := rk_bd hf
  obtain ⟨J5, e32, hf⟩ := rk_bd hf
  obtain ⟨R9, e33, hf⟩ := rk_bd hf
  refine AW_nwI (N := 4) dX10_init_39 kA_int (by decide) (by decide) (by decide) (by decide) e30 e31 e32 e33 ?_
  obtain ⟨_, e34, hf⟩ := rk_bd hf
  have e34 := rk_ck_sp e34
  obtain ⟨R10, e35, hf⟩ := rk_bd hf
  refine AW_puAF dX10_init_41 kf_X10_26 rfl e34 (by decide) rfl rfl e35 ?_
  refine AW_aload_n0 dX10_init_44 ?_
  refine AW_bipush (v := 12) dX10_init_45 (by decide) ?_
  obtain ⟨S6, e37, hf⟩ := rk_bd hf
  obtain ⟨I6, e38, hf⟩ := rk_bd hf
  obtain ⟨J6, e39, hf⟩ := rk_bd hf
  obtain ⟨R11, e40, hf⟩ := rk_bd hf
  refine AW_nwI (N := 12) dX10_init_47 kA_int (by decide) (by decide) (by decide) (by decide) e37 e38 e39 e40 ?_
  obtain ⟨_, e41, hf⟩ := rk_bd hf
  have e41 := rk_ck_sp e41
  obtain ⟨R12, e42, hf⟩ := rk_bd hf
  refine AW_puAF dX10_init_49 kf_X10_29 rfl e41 (by decide) rfl rfl e42 ?_
  refine AW_aload_n0 dX10_init_52 ?_
  refine AW_bipush (v := 24) dX10_init_53 (by decide) ?_
  obtain ⟨S7, e44, hf⟩ := rk_bd hf
  obtain ⟨I7, e45, hf⟩ := rk_bd hf
  obtain ⟨J7, e46, hf⟩ := rk_bd hf
  obtain ⟨R13, e47, hf⟩ := rk_bd hf
  refine AW_nwI (N := 24) dX10_init_55 kA_int (by decide) (by decide) (by decide) (by decide) e44 e45 e46 e47 ?_
  obtain ⟨_, e48, hf⟩ := rk_bd hf
  have e48 := rk_ck_sp e48
  obtain ⟨R14, e49, hf⟩ := rk_bd hf
  refine AW_puAF dX10_init_57 kf_X10_32 rfl e48 (by decide) rfl rfl e49 ?_
  refine AW_aload_n0 dX10_init_60 ?_
  refine AW_bipush (v := 24) dX10_init_61 (by decide) ?_
  obtain ⟨S8, e51, hf⟩ := rk_bd hf
  obtain ⟨I8, e52, hf⟩ := rk_bd hf
  obtain ⟨J8, e53, hf⟩ := rk_bd hf
  obtain ⟨R15, e54, hf⟩ := rk_bd hf
  refine AW_nwI (N := 24) dX10_init_63 kA_int (by decide) (by decide) (by decide) (by decide) e51 e52 e53 e54 ?_
  obtain ⟨_, e55, hf⟩ := rk_bd hf
  have e55 := rk_ck_sp e55
  obtain ⟨R16, e56, hf⟩ := rk_bd hf
  refine AW_puAF dX10_init_65 kf_X10_35 rfl e55 (by decide) rfl rfl e56 ?_
  refine AW_aload_n0 dX10_init_68 ?_
  refine AW_bipush (v := 24) dX10_init_69 (by decide) ?_
  obtain ⟨S9, e58, hf⟩ := rk_bd hf
  obtain ⟨I9, e59, hf⟩ := rk_bd hf
  obtain ⟨J9, e60, hf⟩ := rk_bd hf
  obtain ⟨R17, e61, hf⟩ := rk_bd hf
  refine AW_nwI (N := 24) dX10_init_71 kA_int (by decide) (by decide) (by decide) (by decide) e58 e59 e60 e61 ?_
  obtain ⟨_, e62, hf⟩ := rk_bd hf
  have e62 := rk_ck_sp e62
  obtain ⟨R18, e63, hf⟩ := rk_bd hf
  refine AW_puAF dX10_init_73 kf_X10_38 rfl e62 (by decide) rfl rfl e63 ?_
  refine AW_aload_n0 dX10_init_76 ?_
  refine AW_bipush (v := 24) dX10_init_77 (by decide) ?_
  obtain ⟨S10, e65, hf⟩ := rk_bd hf
  obtain ⟨I10, e66, hf⟩ := rk_bd hf
  obtain ⟨J10, e67, hf⟩ := rk_bd hf
  obtain ⟨R19, e68, hf⟩ := rk_bd hf
  refine AW_nwI (N := 24) dX10_init_79 kA_int (by decide) (by decide) (by decide) (by decide) e65 e66 e67 e68 ?_
  obtain ⟨_, e69, hf⟩ := rk_bd hf
  have e69 := rk_ck_sp e69
  obtain ⟨R20, e70, hf⟩ := rk_bd hf
  refine AW_puAF dX10_init_81 kf_X10_41 rfl e69 (by decide) rfl rfl e70 ?_
  refine AW_aload_n0 dX10_init_84 ?_
  refine AW_bipush (v := 24) dX10_init_85 (by decide) ?_
  obtain ⟨S11, e72, hf⟩ := rk_bd hf
  obtain ⟨I11, e73, hf⟩ := rk_bd hf
  obtain ⟨J11, e74, hf⟩ := rk_bd hf
  obtain ⟨R21, e75, hf⟩ := rk_bd hf
  refine AW_nwI (N := 24) dX10_init_87 kA_int (by decide) (by decide) (by decide) (by decide) e72 e73 e74 e75 ?_
  obtain ⟨_, e76, hf⟩ := rk_bd hf
  have e76 := rk_ck_sp e76
  obtain ⟨R22, e77, hf⟩ := rk_bd hf
  refine AW_puAF dX10_init_89 kf_X10_44 rfl e76 (by decide) rfl rfl e77 ?_
  refine AW_aload_n0 dX10_init_92 ?_
  refine AW_bipush (v := 24) dX10_init_93 (by decide) ?_
  obtain ⟨S12, e79, hf⟩ := rk_bd hf
  obtain ⟨I12, e80, hf⟩ := rk_bd hf
  obtain ⟨J12, e81, hf⟩ := rk_bd hf
  obtain ⟨R23, e82, hf⟩ := rk_bd hf
  refine AW_nwI (N := 24) dX10_init_95 kA_int (by decide) (by decide) (by decide) (by decide) e79 e80 e81 e82 ?_
  obtain ⟨_, e83, hf⟩ := rk_bd hf
  have e83 := rk_ck_sp e83
  obtain ⟨R24, e84, hf⟩ := rk_bd hf
  refine AW_puAF dX10_init_97 kf_X10_47 rfl e83 (by decide) rfl rfl e84 ?_
  refine AW_aload_n0 dX10_init_100 ?_
  refine AW_bipush (v := 24) dX10_init_101 (by decide) ?_
  obtain ⟨S13, e86, hf⟩ := rk_bd hf
  obtain ⟨I13, e87, hf⟩ := rk_bd hf
  obtain ⟨J13, e88, hf⟩ := rk_bd hf
  obtain ⟨R25, e89, hf⟩ := rk_bd hf
  refine AW_nwI (N := 24) dX10_init_103 kA_int (by decide) (by decide) (by decide) (by decide) e86 e87 e88 e89 ?_
  obtain ⟨_, e90, hf⟩ := rk_bd hf
  have e90 := rk_ck_sp e90
  obtain ⟨R26, e91, hf⟩ := rk_bd hf
  refine AW_puAF dX10_init_105 kf_X10_50 rfl e90 (by decide) rfl rfl e91 ?_
  refine AW_aload_n0 dX10_init_108 ?_
  refine AW_bipush (v := 24) dX10_init_109 (by decide) ?_
  obtain ⟨S14, e93, hf⟩ := rk_bd hf
  obtain ⟨I14, e94, hf⟩ := rk_bd hf
  obtain ⟨J14, e95, hf⟩ := rk_bd hf
  obtain ⟨R27, e96, hf⟩ := rk_bd hf
  refine AW_nwI (N := 24) dX10_init_111 kA_int (by decide) (by decide) (by decide) (by decide) e93 e94 e95 e96 ?_
  obtain ⟨_, e97, hf⟩ := rk_bd hf
  have e97 := rk_ck_sp e97
  obtain ⟨R28, e98, hf⟩ := rk_bd hf
  refine AW_puAF dX10_init_113 kf_X10_53 rfl e97 (by decide) rfl rfl e98 ?_
  refine AW_aload_n0 dX10_init_116 ?_
  refine AW_bipush (v := 24) dX10_init_117 (by decide) ?_
  obtain ⟨S15, e100, hf⟩ := rk_bd hf
  obtain ⟨I15, e101, hf⟩ := rk_bd hf
  obtain ⟨J15, e102, hf⟩ := rk_bd hf
  obtain ⟨R29, e103, hf⟩ := rk_bd hf
  refine AW_nwI (N := 24) dX10_init_119 kA_int (by decide) (by decide) (by decide) (by decide) e100 e101 e102 e103 ?_
  obtain ⟨_, e104, hf⟩ := rk_bd hf
  have e104 := rk_ck_sp e104
  obtain ⟨R30, e105, hf⟩ := rk_bd hf
  refine AW_puAF dX10_init_121 kf_X10_56 rfl e104 (by decide) rfl rfl e105 ?_
  refine AW_aload_n0 dX10_init_124 ?_
  refine AW_bipush (v := 10) dX10_init_125 (by decide) ?_
  obtain ⟨S16, e107, hf⟩ := rk_bd hf
  obtain ⟨I16, e108, hf⟩ := rk_bd hf
  obtain ⟨J16, e109, hf⟩ := rk_bd hf
  obtain ⟨R31, e110, hf⟩ := rk_bd hf
  refine AW_nwI (N := 10) dX10_init_127 kA_int (by decide) (by decide) (by decide) (by decide) e107 e108 e109 e110 ?_
  obtain ⟨_, e111, hf⟩ := rk_bd hf
  have e111 := rk_ck_sp e111
  obtain ⟨R32, e112, hf⟩ := rk_bd hf
  refine AW_puAF dX10_init_129 kf_X10_59 rfl e111 (by decide) rfl rfl e112 ?_
  refine AW_aload_n0 dX10_init_132 ?_
  refine AW_bipush (v := 24) dX10_init_133 (by decide) ?_
  obtain ⟨S17, e114, hf⟩ := rk_bd hf
  obtain ⟨I17, e115, hf⟩ := rk_bd hf
  obtain ⟨J17, e116, hf⟩ := rk_bd hf
  obtain ⟨R33, e117, hf⟩ := rk_bd hf
  refine AW_nwI (N := 24) dX10_init_135 kA_int (by decide) (by decide) (by decide) (by decide) e114 e115 e116 e117 ?_
  obtain ⟨_, e118, hf⟩ := rk_bd hf
  have e118 := rk_ck_sp e118
  obtain ⟨R34, e119, hf⟩ := rk_bd hf
  refine AW_puAF dX10_init_137 kf_X10_62 rfl e118 (by decide) rfl rfl e119 ?_
  refine AW_aload_n0 dX10_init_140 ?_
  refine AW_bipush (v := 10) dX10_init_141 (by decide) ?_
  obtain ⟨S18, e121, hf⟩ := rk_bd hf
  obtain ⟨I18, e122, hf⟩ := rk_bd hf
  obtain ⟨J18, e123, hf⟩ := rk_bd hf
  obtain ⟨R35, e124, hf⟩ := rk_bd hf
  refine AW_nwI (N := 10) dX10_init_143 kA_int (by decide) (by decide) (by decide) (by decide) e121 e122 e123 e124 ?_
  obtain ⟨_, e125, hf⟩ := rk_bd hf
  have e125 := rk_ck_sp e125
  obtain ⟨R36, e126, hf⟩ := rk_bd hf
  refine AW_puAF dX10_init_145 kf_X10_65 rfl e125 (by decide) rfl rfl e126 ?_
  refine AW_aload_n0 dX10_init_148 ?_
  refine AW_bipush (v := 12) dX10_init_149 (by decide) ?_
  obtain ⟨S19, e128, hf⟩ := rk_bd hf
  obtain ⟨I19, e129, hf⟩ := rk_bd hf
  obtain ⟨J19, e130, hf⟩ := rk_bd hf
  obtain ⟨R37, e131, hf⟩ := rk_bd hf
  refine AW_nwI (N := 12) dX10_init_151 kA_int (by decide) (by decide) (by decide) (by decide) e128 e129 e130 e131 ?_
  obtain ⟨_, e132, hf⟩ := rk_bd hf
  have e132 := rk_ck_sp e132
  obtain ⟨R38, e133, hf⟩ := rk_bd hf
  refine AW_puAF dX10_init_153 kf_X10_68 rfl e132 (by decide) rfl rfl e133 ?_
  refine AW_aload_n0 dX10_init_156 ?_
  refine AW_bipush (v := 24) dX10_init_157 (by decide) ?_
  obtain ⟨S20, e135, hf⟩ := rk_bd hf
  obtain ⟨I20, e136, hf⟩ := rk_bd hf
  obtain ⟨J20, e137, hf⟩ := rk_bd hf
  obtain ⟨R39, e138, hf⟩ := rk_bd hf
  refine AW_nwI (N := 24) dX10_init_159 kA_int (by decide) (by decide) (by decide) (by decide) e135 e136 e137 e138 ?_
  obtain ⟨_, e139, hf⟩ := rk_bd hf
  have e139 := rk_ck_sp e139
  obtain ⟨R40, e140, hf⟩ := rk_bd hf
  refine AW_puAF dX10_init_161 kf_X10_71 rfl e139 (by decide) rfl rfl e140 ?_
  refine AW_aload_n0 dX10_init_164 ?_
  refine AW_bipush (v := 24) dX10_init_165 (by decide) ?_
  obtain ⟨S21, e142, hf⟩ := rk_bd hf
  obtain ⟨I21, e143, hf⟩ := rk_bd hf
  obtain ⟨J21, e144, hf⟩ := rk_bd hf
  obtain ⟨R41, e145, hf⟩ := rk_bd hf
  refine AW_nwI (N := 24) dX10_init_167 kA_int (by decide) (by decide) (by decide) (by decide) e142 e143 e144 e145 ?_
  obtain ⟨_, e146, hf⟩ := rk_bd hf
  have e146 := rk_ck_sp e146
  obtain ⟨R42, e147, hf⟩ := rk_bd hf
  refine AW_puAF dX10_init_169 kf_X10_74 rfl e146 (by decide) rfl rfl e147 ?_
  refine AW_aload_n0 dX10_init_172 ?_
  refine AW_iconst (v := 4) dX10_init_173 (by decide) ?_
  obtain ⟨S22, e149, hf⟩ := rk_bd hf
  obtain ⟨I22, e150, hf⟩ := rk_bd hf
  obtain ⟨J22, e151, hf⟩ := rk_bd hf
  obtain ⟨R43, e152, hf⟩ := rk_bd hf
  refine AW_nwZ (N := 4) dX10_init_174 kA_bool (by decide) (by decide) (by decide) (by decide) e149 e150 e151 e152 ?_
  obtain ⟨_, e153, hf⟩ := rk_bd hf
  have e153 := rk_ck_sp e153
  obtain ⟨R44, e154, hf⟩ := rk_bd hf
  refine AW_puAF dX10_init_176 kf_X10_77 rfl e153 (by decide) rfl rfl e154 ?_
  refine AW_aload_n0 dX10_init_179 ?_
  refine AW_iconst (v := 4) dX10_init_180 (by decide) ?_
  obtain ⟨S23, e156, hf⟩ := rk_bd hf
  obtain ⟨I23, e157, hf⟩ := rk_bd hf
  obtain ⟨J23, e158, hf⟩ := rk_bd hf
  obtain ⟨R45, e159, hf⟩ := rk_bd hf
  refine AW_nwI (N := 4) dX10_init_181 kA_int (by decide) (by decide) (by decide) (by decide) e156 e157 e158 e159 ?_
  obtain ⟨_, e160, hf⟩ := rk_bd hf
  have e160 := rk_ck_sp e160
  obtain ⟨R46, e161, hf⟩ := rk_bd hf
  refine AW_puAF dX10_init_183 kf_X10_81 rfl e160 (by decide) rfl rfl e161 ?_
  refine AW_aload_n0 dX10_init_186 ?_
  refine AW_iconst (v := 4) dX10_init_187 (by decide) ?_
  obtain ⟨S24, e163, hf⟩ := rk_bd hf
  obtain ⟨I24, e164, hf⟩ := rk_bd hf
  obtain ⟨J24, e165, hf⟩ := rk_bd hf
  obtain ⟨R47, e166, hf⟩ := rk_bd hf
  refine AW_nwI (N := 4) dX10_init_188 kA_int (by decide) (by decide) (by decide) (by decide) e163 e164 e165 e166 ?_
  obtain ⟨_, e167, hf⟩ := rk_bd hf
  have e167 := rk_ck_sp e167
  obtain ⟨R48, e168, hf⟩ := rk_bd hf
  refine AW_puAF dX10_init_190 kf_X10_84 rfl e167 (by decide) rfl rfl e168 ?_
  refine AW_aload_n0 dX10_init_193 ?_
  refine AW_sipush (v := 160) dX10_init_194 (by decide) ?_
  obtain ⟨S25, e170, hf⟩ := rk_bd hf
  obtain ⟨I25, e171, hf⟩ := rk_bd hf
  obtain ⟨J25, e172, hf⟩ := rk_bd hf
  obtain ⟨R49, e173, hf⟩ := rk_bd hf
  refine AW_nwI (N := 160) dX10_init_197 kA_int (by decide) (by decide) (by decide) (by decide) e170 e171 e172 e173 ?_
  obtain ⟨_, e174, hf⟩ := rk_bd hf
  have e174 := rk_ck_sp e174
  obtain ⟨R50, e175, hf⟩ := rk_bd hf
  refine AW_puAF dX10_init_199 kf_X10_87 rfl e174 (by decide) rfl rfl e175 ?_
  refine AW_aload_n0 dX10_init_202 ?_
  refine AW_iconst (v := 0) dX10_init_203 (by decide) ?_
  refine AW_ldc2 dX10_init_204 kv_X10_90 ?_
  obtain ⟨_, e176, hf⟩ := rk_bd hf
  have e176 := rk_layM_sp e176
  obtain ⟨I26, e177, hf⟩ := rk_bd hf
  refine AW_iV2vz (w_X10_spell (d := 0) e176 e177) dX10_init_207 kl_X10_92 e174 rfl (Nat.le_trans (by decide) hd) (by decide) (Nat.le_of_ble_eq_true rfl) (fun _ => ?_)
  refine AW_aload_n0 dX10_init_210 ?_
  refine AW_bipush (v := 8) dX10_init_211 (by decide) ?_
  refine AW_ldc2 dX10_init_213 kv_X10_96 ?_
  obtain ⟨I27, e178, hf⟩ := rk_bd hf
  refine AW_iV2vz (w_X10_spell (d := 0) e176 e178) dX10_init_216 kl_X10_92 e174 rfl (Nat.le_trans (by decide) hd) (by decide) (Nat.le_of_ble_eq_true rfl) (fun _ => ?_)
  refine AW_aload_n0 dX10_init_219 ?_
  refine AW_bipush (v := 16) dX10_init_220 (by decide) ?_
  refine AW_ldc2 dX10_init_222 kv_X10_98 ?_
  obtain ⟨I28, e179, hf⟩ := rk_bd hf
  refine AW_iV2vz (w_X10_spell (d := 0) e176 e179) dX10_init_225 kl_X10_92 e174 rfl (Nat.le_trans (by decide) hd) (by decide) (Nat.le_of_ble_eq_true rfl) (fun _ => ?_)
  refine AW_aload_n0 dX10_init_228 ?_
  refine AW_bipush (v := 24) dX10_init_229 (by decide) ?_
  refine AW_ldc2 dX10_init_231 kv_X10_100 ?_
  obtain ⟨I29, e180, hf⟩ := rk_bd hf
  refine AW_iV2vz (w_X10_spell (d := 0) e176 e180) dX10_init_234 kl_X10_92 e174 rfl (Nat.le_trans (by decide) hd) (by decide) (Nat.le_of_ble_eq_true rfl) (fun _ => ?_)
  refine AW_aload_n0 dX10_init_237 ?_
  refine AW_bipush (v := 32) dX10_init_238 (by decide) ?_
  refine AW_ldc2 dX10_init_240 kv_X10_102 ?_
  obtain ⟨I30, e181, hf⟩ := rk_bd hf
  refine AW_iV2vz (w_X10_spell (d := 0) e176 e181) dX10_init_243 kl_X10_92 e174 rfl (Nat.le_trans (by decide) hd) (by decide) (Nat.le_of_ble_eq_true rfl) (fun _ => ?_)
  refine AW_aload_n0 dX10_init_246 ?_
  refine AW_bipush (v := 40) dX10_init_247 (by decide) ?_
  refine AW_ldc2 dX10_init_249 kv_X10_104 ?_
  obtain ⟨I31, e182, hf⟩ := rk_bd hf
  refine AW_iV2vz (w_X10_spell (d := 0) e176 e182) dX10_init_252 kl_X10_92 e174 rfl (Nat.le_trans (by decide) hd) (by decide) (Nat.le_of_ble_eq_true rfl) (fun _ => ?_)
  refine AW_aload_n0 dX10_init_255 ?_
  obtain ⟨_, e183, hf⟩ := rk_bd hf
  have e183 := rk_ckR_sp e183
  refine AW_getR dX10_init_256 kf_X10_17 rfl e174 (by decide) e183 ?_
  refine AW_iconst (v := 0) dX10_init_259 (by decide) ?_
  refine AW_bipush (v := 48) dX10_init_260 (by decide) ?_
  obtain ⟨_, e184, hf⟩ := rk_bd hf
  have e184 := rk_ck_sp e184
  obtain ⟨I32, e185, hf⟩ := rk_bd hf
  refine AW_wr dX10_init_262 e184 e185 ?_
  refine AW_aload_n0 dX10_init_263 ?_
  refine AW_iconst (v := 1) dX10_init_264 (by decide) ?_
  obtain ⟨I33, e186, hf⟩ := rk_bd hf
  refine AW_puI dX10_init_265 kf_X10_106 rfl e174 (by decide) e186 ?_
  exact AW_vret dX10_init_268 rfl (hq _ _ _ _ _ (Option.some.inj hf).symm)
theorem w_X10_init {G : rk_G} {l : Launch} {d : Nat} {n : Nat} {S : rk_Sh} {I : rk_I} {J : rk_J} {R : rk_R}  {n8 : Nat} {S8 : rk_Sh} {I8 : rk_I} {J8 : rk_J} {R8 : rk_R} (hd : 1 ≤ d) (hM : rk_LM S R) (hf : f_X10_init S I J R = some (n8, S8, I8, J8, R8)) :
    CW G l yX10_init cX10_init 1 none d 25 1638 [.ref 31] 32 S I J R (rk_qv n8 S8 I8 J8 R8 True) :=
  CW.of (by decide +kernel) (Nat.le_of_ble_eq_true rfl) (rk_sbs rk_sb0) (b_X10_init hd hM hf (fun n9 S9 I9 J9 R9 h9 => by cases h9; exact ⟨rfl, rfl, rfl, rfl, rfl, rfl, trivial⟩))
