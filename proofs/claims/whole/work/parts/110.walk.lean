noncomputable def f_X9_init_l118 (S : rk_Sh) (I : rk_I) (J : rk_J) (R : rk_R) (s1 : Int32) : Option ((Int32 × rk_I) ⊕ (Int32 × rk_I)) :=
(f_J0_length_8abf5_1000001 ).bind fun x1 =>
if x1 ≤ s1 then (
some (.inr (s1, I))) else (
(rk_ck S 0 8 17).bind fun _ =>
(rk_ckR R 0 7 4).bind fun _ =>
(f_J0_charAt_5068e_1000001 s1).bind fun x2 =>
(rk_ck S 4 2 10).bind fun _ =>
(rk_layC S R).bind fun _ =>
(f_X2_put I x2).bind fun I1 =>
some (.inl ((s1 + 1), I1)))
theorem b_X9_init_l118 {G : rk_G} {l : Launch} {d : Nat} {S : rk_Sh} {I : rk_I} {J : rk_J} {R : rk_R} {Q : rk_Q} {s1 : Int32} {r : (Int32 × rk_I) ⊕ (Int32 × rk_I)} (hd : 65 ≤ d) (hf : f_X9_init_l118 S I J R s1 = some r) (hc : ∀ (w0 : Int32) (I9 : rk_I), r = .inl (w0, I9) → AW G l yX9_init cX9_init 2 none d 3 322 118 [some (.ref 0), some (.int w0)] [] 28 S I9 J R Q) (he : ∀ (w0 : Int32) (I9 : rk_I), r = .inr (w0, I9) → AW G l yX9_init cX9_init 2 none d 3 322 146 [some (.ref 0), some (.int w0)] [] 28 S I9 J R Q) :
    AW G l yX9_init cX9_init 2 none d 3 322 118 [some (.ref 0), some (.int s1)] [] 28 S I J R Q := by
  unfold f_X9_init_l118 at hf
  refine AW_iload_n1 dX9_init_118 ?_
  refine AW_ldcS0 rfl dX9_init_119 ?_
  replace hf := rk_bd hf
  obtain ⟨x1, e1, hf⟩ := hf
  refine AW_iY0iz 0 (w_J0_length_8abf5_1000001 (d := 1) (Nat.le_refl _) e1) dX9_init_121 kl_X9_68 (by decide) rfl (Nat.le_trans (by decide) hd) (by decide) (Nat.le_of_ble_eq_true rfl) (fun _ => ?_)
  refine AW_icmp_ge 146 dX9_init_124 (by decide) (fun h1 => ?_) (fun h1 => ?_)
  · replace hf := rk_it hf h1
    refine AW_sb (rk_sbs (rk_sbs rk_sb0)) ?_
    exact he _ _ (Option.some.inj hf).symm
  · replace hf := rk_if hf h1
    refine AW_aload_n0 dX9_init_127 ?_
    replace hf := rk_bd hf
    obtain ⟨_, e2, hf⟩ := hf
    have e2 := rk_ck_sp e2
    replace hf := rk_bd hf
    obtain ⟨_, e3, hf⟩ := hf
    have e3 := rk_ckR_sp e3
    refine AW_getR dX9_init_128 kf_X9_30 rfl e2 (by decide) e3 ?_
    refine AW_ldcS0 rfl dX9_init_131 ?_
    refine AW_iload_n1 dX9_init_133 ?_
    replace hf := rk_bd hf
    obtain ⟨x2, e4, hf⟩ := hf
    refine AW_iY1iz 0 (w_J0_charAt_5068e_1000001 (d := 3) (Nat.le_refl _) e4) dX9_init_134 kl_X9_74 (by decide) rfl (Nat.le_trans (by decide) hd) (by decide) (Nat.le_of_ble_eq_true rfl) (fun _ => ?_)
    replace hf := rk_bd hf
    obtain ⟨_, e5, hf⟩ := hf
    have e5 := rk_ck_sp e5
    replace hf := rk_bd hf
    obtain ⟨_, e6, hf⟩ := hf
    have e6 := rk_layC_sp e6
    replace hf := rk_bd hf
    obtain ⟨I1, e7, hf⟩ := hf
    refine AW_iV1vz (w_X2_put (d := 0) e6 e7) dX9_init_137 kl_X9_78 e5 rfl (Nat.le_trans (by decide) hd) (by decide) (Nat.le_of_ble_eq_true rfl) (fun _ => ?_)
    refine AW_iinc_1 (v := 1) dX9_init_140 (by decide) (by decide) rfl ?_
    refine AW_goto 118 dX9_init_143 (by decide) ?_
    refine AW_sb (rk_sbs (rk_sbs rk_sb0)) ?_
    exact hc _ _ (Option.some.inj hf).symm
theorem L_X9_init_w118 {G : rk_G} {l : Launch} {d : Nat} {S : rk_Sh} {J : rk_J} {R : rk_R} {Q : rk_Q}  {r : Int32 × rk_I} (hd : 65 ≤ d) (he : ∀ (w0 : Int32) (I9 : rk_I), r = (w0, I9) → AW G l yX9_init cX9_init 2 none d 3 322 146 [some (.ref 0), some (.int w0)] [] 28 S I9 J R Q) :
    ∀ (m9 : Nat) (s1 : Int32) (I : rk_I), rk_loop (fun a9 => f_X9_init_l118 S a9.2 J R a9.1) m9 (s1, I) = some r → AW G l yX9_init cX9_init 2 none d 3 322 118 [some (.ref 0), some (.int s1)] [] 28 S I J R Q := by
  intro m9
  induction m9 with
  | zero => intro s1 I hf; cases hf
  | succ m9 ih =>
    intro s1 I hf 
    obtain ⟨r9, hf, hr⟩ := rk_loop_s hf
    exact b_X9_init_l118 hd hf (fun _ _ h9 => by subst h9; exact ih _ _ hr) (fun _ _ h9 => by subst h9; exact he _ _ hr.symm)
noncomputable def f_X9_init (S : rk_Sh) (I : rk_I) (J : rk_J) (R : rk_R)  : Option (rk_Sh × rk_I × rk_J × rk_R) :=
(some (rk_sh S 1 22 4)).bind fun S1 =>
(some (rk_zi I 1)).bind fun I1 =>
(some (rk_zj J 1)).bind fun J1 =>
(some (rk_zr R 1)).bind fun R1 =>
(rk_ck S1 0 8 17).bind fun _ =>
(some (rk_ur R1 0 0 (some 1))).bind fun R2 =>
(some (rk_sh S1 2 23 24)).bind fun S2 =>
(some (rk_zi I1 2)).bind fun I2 =>
(some (rk_zj J1 2)).bind fun J2 =>
(some (rk_zr R2 2)).bind fun R3 =>
(rk_ck S2 0 8 17).bind fun _ =>
(some (rk_ur R3 0 2 (some 2))).bind fun R4 =>
(some (rk_sh S2 3 24 6)).bind fun S3 =>
(some (rk_zi I2 3)).bind fun I3 =>
(some (rk_zj J2 3)).bind fun J3 =>
(some (rk_zr R4 3)).bind fun R5 =>
(rk_ck S3 0 8 17).bind fun _ =>
(some (rk_ur R5 0 4 (some 3))).bind fun R6 =>
(some (rk_sh S3 4 2 10)).bind fun S4 =>
(some (rk_zi I3 4)).bind fun I4 =>
(some (rk_zj J3 4)).bind fun J4 =>
(some (rk_zr R6 4)).bind fun R7 =>
rk_b4 (f_X2_init S4 I4 J4 R7) fun S5 I5 J5 R8 =>
(rk_ck S5 0 8 17).bind fun _ =>
(some (rk_ur R8 0 7 (some 4))).bind fun R9 =>
(some (rk_sh S5 10 3 2)).bind fun S6 =>
(some (rk_zi I5 10)).bind fun I6 =>
(some (rk_zj J5 10)).bind fun J6 =>
(some (rk_zr R9 10)).bind fun R10 =>
rk_b4 (f_X3_init S6 I6 J6 R10) fun S7 I7 J7 R11 =>
(rk_ck S7 0 8 17).bind fun _ =>
(some (rk_ur R11 0 8 (some 10))).bind fun R12 =>
(some (rk_sh S7 12 1 5)).bind fun S8 =>
(some (rk_zi I7 12)).bind fun I8 =>
(some (rk_zj J7 12)).bind fun J8 =>
(some (rk_zr R12 12)).bind fun R13 =>
rk_b4 (f_X1_init S8 I8 J8 R13) fun S9 I9 J9 R14 =>
(rk_ck S9 0 8 17).bind fun _ =>
(some (rk_ur R14 0 9 (some 12))).bind fun R15 =>
(some (rk_sh S9 16 4 4)).bind fun S10 =>
(some (rk_zi I9 16)).bind fun I10 =>
(some (rk_zj J9 16)).bind fun J10 =>
(some (rk_zr R15 16)).bind fun R16 =>
rk_b4 (f_X4_init S10 I10 J10 R16) fun S11 I11 J11 R17 =>
(rk_ck S11 0 8 17).bind fun _ =>
(some (rk_ur R17 0 10 (some 16))).bind fun R18 =>
(some (rk_sh S11 18 25 4)).bind fun S12 =>
(some (rk_zi I11 18)).bind fun I12 =>
(some (rk_zj J11 18)).bind fun J12 =>
(some (rk_zr R18 18)).bind fun R19 =>
(rk_ck S12 0 8 17).bind fun _ =>
(some (rk_ur R19 0 11 (some 18))).bind fun R20 =>
(some (rk_sh S12 19 20 10)).bind fun S13 =>
(some (rk_zi I12 19)).bind fun I13 =>
(some (rk_zj J12 19)).bind fun J13 =>
(some (rk_zr R20 19)).bind fun R21 =>
(rk_ck S13 0 8 17).bind fun _ =>
(some (rk_ur R21 0 12 (some 19))).bind fun R22 =>
(rk_ckR R22 0 11 18).bind fun _ =>
(some (rk_sh S13 20 6 3)).bind fun S14 =>
(some (rk_zi I13 20)).bind fun I14 =>
(some (rk_zj J13 20)).bind fun J14 =>
(some (rk_zr R22 20)).bind fun R23 =>
rk_b4 (f_X6_init_20 S14 I14 J14 R23) fun S15 I15 J15 R24 =>
(rk_ck S15 18 25 4).bind fun _ =>
(rk_ck S15 20 6 3).bind fun _ =>
(rk_wrR R24 18 4 0 20).bind fun R25 =>
(rk_ck S15 0 8 17).bind fun _ =>
(rk_ckR R25 0 11 18).bind fun _ =>
(some (rk_sh S15 22 6 3)).bind fun S16 =>
(some (rk_zi I15 22)).bind fun I16 =>
(some (rk_zj J15 22)).bind fun J16 =>
(some (rk_zr R25 22)).bind fun R26 =>
rk_b4 (f_X6_init_22 S16 I16 J16 R26) fun S17 I17 J17 R27 =>
(rk_ck S17 18 25 4).bind fun _ =>
(rk_ck S17 22 6 3).bind fun _ =>
(rk_wrR R27 18 4 1 22).bind fun R28 =>
(rk_ck S17 0 8 17).bind fun _ =>
(rk_ckR R28 0 11 18).bind fun _ =>
(some (rk_sh S17 24 6 3)).bind fun S18 =>
(some (rk_zi I17 24)).bind fun I18 =>
(some (rk_zj J17 24)).bind fun J18 =>
(some (rk_zr R28 24)).bind fun R29 =>
rk_b4 (f_X6_init_24 S18 I18 J18 R29) fun S19 I19 J19 R30 =>
(rk_ck S19 18 25 4).bind fun _ =>
(rk_ck S19 24 6 3).bind fun _ =>
(rk_wrR R30 18 4 2 24).bind fun R31 =>
(rk_ck S19 0 8 17).bind fun _ =>
(rk_ckR R31 0 11 18).bind fun _ =>
(some (rk_sh S19 26 6 3)).bind fun S20 =>
(some (rk_zi I19 26)).bind fun I20 =>
(some (rk_zj J19 26)).bind fun J20 =>
(some (rk_zr R31 26)).bind fun R32 =>
rk_b4 (f_X6_init_26 S20 I20 J20 R32) fun S21 I21 J21 R33 =>
(rk_ck S21 18 25 4).bind fun _ =>
(rk_ck S21 26 6 3).bind fun _ =>
(rk_wrR R33 18 4 3 26).bind fun R34 =>
rk_b2 (rk_while (fun a9 => f_X9_init_l118 S21 a9.2 J21 R34 a9.1) (0, I21)) fun x1 I22 =>
(rk_ck S21 0 8 17).bind fun _ =>
(rk_ckR R34 0 7 4).bind fun _ =>
(rk_ck S21 4 2 10).bind fun _ =>
(rk_layC S21 R34).bind fun _ =>
rk_b2 (f_X2_read I22) fun x2 I23 =>
(rk_ckR R34 0 4 3).bind fun _ =>
(rk_ckR R34 0 7 4).bind fun _ =>
rk_b6 (f_X2_asText 28 S21 I23 J21 R34) fun o1 n1 S22 I24 J22 R35 =>
(rk_ck S22 3 24 6).bind fun _ =>
(rk_ck S22 o1 7 2).bind fun _ =>
(rk_wrR R35 3 6 0 o1).bind fun R36 =>
(rk_ck S22 0 8 17).bind fun _ =>
(some (rk_ui I24 0 5 1)).bind fun I25 =>
(rk_ckR R36 0 7 4).bind fun _ =>
(rk_ck S22 4 2 10).bind fun _ =>
(rk_layC S22 R36).bind fun _ =>
(f_X2_empty I25).bind fun I26 =>
(rk_ckn n1 31).bind fun _ =>
some (S22, I26, J22, R36)
theorem b_X9_init {G : rk_G} {l : Launch} {d : Nat} {S : rk_Sh} {I : rk_I} {J : rk_J} {R : rk_R} {Q : rk_Q}  {r : rk_Sh × rk_I × rk_J × rk_R} (hd : 65 ≤ d) (hf : f_X9_init S I J R = some r) (hq : ∀ (S9 : rk_Sh) (I9 : rk_I) (J9 : rk_J) (R9 : rk_R), r = (S9, I9, J9, R9) → rk_LC S9 R9 → Q (none) 31 S9 I9 J9 R9) :
    AW G l yX9_init cX9_init 2 none d 30 1436 0 [some (.ref 0), none] [] 1 S I J R Q := by
  unfold f_X9_init at hf
  refine AW_aload_n0 dX9_init_0 ?_
  refine AW_objInit dX9_init_1 ko_X9_1 (Nat.le_trans (by decide) hd) (Nat.le_of_ble_eq_true rfl) ?_
  refine AW_aload_n0 dX9_init_4 ?_
  refine AW_iconst (v := 4) dX9_init_5 (by decide) ?_
  replace hf := rk_bd hf
  obtain ⟨S1, e2, hf⟩ := hf
  replace hf := rk_bd hf
  obtain ⟨I1, e3, hf⟩ := hf
  replace hf := rk_bd hf
  obtain ⟨J1, e4, hf⟩ := hf
  replace hf := rk_bd hf
  obtain ⟨R1, e5, hf⟩ := hf
  refine AW_nwQ (N := 4) dX9_init_6 (Or.inl rfl) kw_X9_9 (by decide) (by decide) (by decide) (by decide) e2 e3 e4 e5 ?_
  replace hf := rk_bd hf
  obtain ⟨_, e6, hf⟩ := hf
  have e6 := rk_ck_sp e6
  replace hf := rk_bd hf
  obtain ⟨R2, e7, hf⟩ := hf
  refine AW_puAF dX9_init_9 kf_X9_11 rfl e6 (by decide) rfl rfl e7 ?_
  refine AW_aload_n0 dX9_init_12 ?_
  refine AW_bipush (v := 24) dX9_init_13 (by decide) ?_
  replace hf := rk_bd hf
  obtain ⟨S2, e9, hf⟩ := hf
  replace hf := rk_bd hf
  obtain ⟨I2, e10, hf⟩ := hf
  replace hf := rk_bd hf
  obtain ⟨J2, e11, hf⟩ := hf
  replace hf := rk_bd hf
  obtain ⟨R3, e12, hf⟩ := hf
  refine AW_nwQ (N := 24) dX9_init_15 (Or.inr (Or.inl rfl)) kw_X9_15 (by decide) (by decide) (by decide) (by decide) e9 e10 e11 e12 ?_
  replace hf := rk_bd hf
  obtain ⟨_, e13, hf⟩ := hf
  have e13 := rk_ck_sp e13
  replace hf := rk_bd hf
  obtain ⟨R4, e14, hf⟩ := hf
  refine AW_puAF dX9_init_18 kf_X9_17 rfl e13 (by decide) rfl rfl e14 ?_
  refine AW_aload_n0 dX9_init_21 ?_
  refine AW_bipush (v := 6) dX9_init_22 (by decide) ?_
  replace hf := rk_bd hf
  obtain ⟨S3, e16, hf⟩ := hf
  replace hf := rk_bd hf
  obtain ⟨I3, e17, hf⟩ := hf
  replace hf := rk_bd hf
  obtain ⟨J3, e18, hf⟩ := hf
  replace hf := rk_bd hf
  obtain ⟨R5, e19, hf⟩ := hf
  refine AW_nwQ (N := 6) dX9_init_24 (Or.inr (Or.inr (Or.inl rfl))) kw_X9_21 (by decide) (by decide) (by decide) (by decide) e16 e17 e18 e19 ?_
  replace hf := rk_bd hf
  obtain ⟨_, e20, hf⟩ := hf
  have e20 := rk_ck_sp e20
  replace hf := rk_bd hf
  obtain ⟨R6, e21, hf⟩ := hf
  refine AW_puAF dX9_init_27 kf_X9_23 rfl e20 (by decide) rfl rfl e21 ?_
  refine AW_aload_n0 dX9_init_30 ?_
  replace hf := rk_bd hf
  obtain ⟨S4, e23, hf⟩ := hf
  replace hf := rk_bd hf
  obtain ⟨I4, e24, hf⟩ := hf
  replace hf := rk_bd hf
  obtain ⟨J4, e25, hf⟩ := hf
  replace hf := rk_bd hf
  obtain ⟨R7, e26, hf⟩ := hf
  refine AW_nwO dX9_init_31 kc_X9_27 (by decide) e23 e24 e25 e26 ?_
  refine AW_dup dX9_init_34 rfl ?_
  replace hf := rk_bd4 hf
  obtain ⟨S5, I5, J5, R8, e27, hf⟩ := hf
  refine AW_iN0v (w_X2_init (d := 1) (Nat.le_refl _) e27) dX9_init_35 kl_X9_29 (Nat.le_trans (by decide) hd) (by decide) (Nat.le_of_ble_eq_true rfl) (fun _ => ?_)
  replace hf := rk_bd hf
  obtain ⟨_, e28, hf⟩ := hf
  have e28 := rk_ck_sp e28
  replace hf := rk_bd hf
  obtain ⟨R9, e29, hf⟩ := hf
  refine AW_puRF dX9_init_38 kf_X9_30 rfl e28 (by decide) rfl rfl e29 ?_
  refine AW_aload_n0 dX9_init_41 ?_
  replace hf := rk_bd hf
  obtain ⟨S6, e31, hf⟩ := hf
  replace hf := rk_bd hf
  obtain ⟨I6, e32, hf⟩ := hf
  replace hf := rk_bd hf
  obtain ⟨J6, e33, hf⟩ := hf
  replace hf := rk_bd hf
  obtain ⟨R10, e34, hf⟩ := hf
  refine AW_nwO dX9_init_42 kc_X9_34 (by decide) e31 e32 e33 e34 ?_
  refine AW_dup dX9_init_45 rfl ?_
  replace hf := rk_bd4 hf
  obtain ⟨S7, I7, J7, R11, e35, hf⟩ := hf
  refine AW_iN0v (w_X3_init (d := 1) (Nat.le_refl _) e35) dX9_init_46 kl_X9_36 (Nat.le_trans (by decide) hd) (by decide) (Nat.le_of_ble_eq_true rfl) (fun _ => ?_)
  replace hf := rk_bd hf
  obtain ⟨_, e36, hf⟩ := hf
  have e36 := rk_ck_sp e36
  replace hf := rk_bd hf
  obtain ⟨R12, e37, hf⟩ := hf
  refine AW_puRF dX9_init_49 kf_X9_37 rfl e36 (by decide) rfl rfl e37 ?_
  refine AW_aload_n0 dX9_init_52 ?_
  replace hf := rk_bd hf
  obtain ⟨S8, e39, hf⟩ := hf
  replace hf := rk_bd hf
  obtain ⟨I8, e40, hf⟩ := hf
  replace hf := rk_bd hf
  obtain ⟨J8, e41, hf⟩ := hf
  replace hf := rk_bd hf
  obtain ⟨R13, e42, hf⟩ := hf
  refine AW_nwO dX9_init_53 kc_X9_41 (by decide) e39 e40 e41 e42 ?_
  refine AW_dup dX9_init_56 rfl ?_
  replace hf := rk_bd4 hf
  obtain ⟨S9, I9, J9, R14, e43, hf⟩ := hf
  refine AW_iN0v (w_X1_init (d := 1) (Nat.le_refl _) e43) dX9_init_57 kl_X9_43 (Nat.le_trans (by decide) hd) (by decide) (Nat.le_of_ble_eq_true rfl) (fun _ => ?_)
  replace hf := rk_bd hf
  obtain ⟨_, e44, hf⟩ := hf
  have e44 := rk_ck_sp e44
  replace hf := rk_bd hf
  obtain ⟨R15, e45, hf⟩ := hf
  refine AW_puRF dX9_init_60 kf_X9_44 rfl e44 (by decide) rfl rfl e45 ?_
  refine AW_aload_n0 dX9_init_63 ?_
  replace hf := rk_bd hf
  obtain ⟨S10, e47, hf⟩ := hf
  replace hf := rk_bd hf
  obtain ⟨I10, e48, hf⟩ := hf
  replace hf := rk_bd hf
  obtain ⟨J10, e49, hf⟩ := hf
  replace hf := rk_bd hf
  obtain ⟨R16, e50, hf⟩ := hf
  refine AW_nwO dX9_init_64 kc_X9_48 (by decide) e47 e48 e49 e50 ?_
  refine AW_dup dX9_init_67 rfl ?_
  replace hf := rk_bd4 hf
  obtain ⟨S11, I11, J11, R17, e51, hf⟩ := hf
  refine AW_iN0v (w_X4_init (d := 1) (Nat.le_refl _) e51) dX9_init_68 kl_X9_50 (Nat.le_trans (by decide) hd) (by decide) (Nat.le_of_ble_eq_true rfl) (fun _ => ?_)
  replace hf := rk_bd hf
  obtain ⟨_, e52, hf⟩ := hf
  have e52 := rk_ck_sp e52
  replace hf := rk_bd hf
  obtain ⟨R18, e53, hf⟩ := hf
  refine AW_puRF dX9_init_71 kf_X9_51 rfl e52 (by decide) rfl rfl e53 ?_
  refine AW_aload_n0 dX9_init_74 ?_
  refine AW_iconst (v := 4) dX9_init_75 (by decide) ?_
  replace hf := rk_bd hf
  obtain ⟨S12, e55, hf⟩ := hf
  replace hf := rk_bd hf
  obtain ⟨I12, e56, hf⟩ := hf
  replace hf := rk_bd hf
  obtain ⟨J12, e57, hf⟩ := hf
  replace hf := rk_bd hf
  obtain ⟨R19, e58, hf⟩ := hf
  refine AW_nwQ (N := 4) dX9_init_76 (Or.inr (Or.inr (Or.inr rfl))) kw_X9_55 (by decide) (by decide) (by decide) (by decide) e55 e56 e57 e58 ?_
  replace hf := rk_bd hf
  obtain ⟨_, e59, hf⟩ := hf
  have e59 := rk_ck_sp e59
  replace hf := rk_bd hf
  obtain ⟨R20, e60, hf⟩ := hf
  refine AW_puAF dX9_init_79 kf_X9_57 rfl e59 (by decide) rfl rfl e60 ?_
  refine AW_aload_n0 dX9_init_82 ?_
  refine AW_bipush (v := 10) dX9_init_83 (by decide) ?_
  replace hf := rk_bd hf
  obtain ⟨S13, e62, hf⟩ := hf
  replace hf := rk_bd hf
  obtain ⟨I13, e63, hf⟩ := hf
  replace hf := rk_bd hf
  obtain ⟨J13, e64, hf⟩ := hf
  replace hf := rk_bd hf
  obtain ⟨R21, e65, hf⟩ := hf
  refine AW_nwI (N := 10) dX9_init_85 kA_int (by decide) (by decide) (by decide) (by decide) e62 e63 e64 e65 ?_
  replace hf := rk_bd hf
  obtain ⟨_, e66, hf⟩ := hf
  have e66 := rk_ck_sp e66
  replace hf := rk_bd hf
  obtain ⟨R22, e67, hf⟩ := hf
  refine AW_puAF dX9_init_87 kf_X9_61 rfl e66 (by decide) rfl rfl e67 ?_
  refine AW_iconst (v := 0) dX9_init_90 (by decide) ?_
  refine AW_istore_n1 dX9_init_91 (by decide) rfl ?_
  refine AW_iload_n1 dX9_init_92 ?_
  refine AW_iconst (v := 4) dX9_init_93 (by decide) ?_
  refine AW_icmp_ge 116 dX9_init_94 (by decide) (fun h9 => absurd h9 (by decide)) (fun _ => ?_)
  refine AW_aload_n0 dX9_init_97 ?_
  replace hf := rk_bd hf
  obtain ⟨_, e68, hf⟩ := hf
  have e68 := rk_ckR_sp e68
  refine AW_getR dX9_init_98 kf_X9_57 rfl e66 (by decide) e68 ?_
  refine AW_iload_n1 dX9_init_101 ?_
  replace hf := rk_bd hf
  obtain ⟨S14, e70, hf⟩ := hf
  replace hf := rk_bd hf
  obtain ⟨I14, e71, hf⟩ := hf
  replace hf := rk_bd hf
  obtain ⟨J14, e72, hf⟩ := hf
  replace hf := rk_bd hf
  obtain ⟨R23, e73, hf⟩ := hf
  refine AW_nwO dX9_init_102 kc_X9_55 (by decide) e70 e71 e72 e73 ?_
  refine AW_dup dX9_init_105 rfl ?_
  replace hf := rk_bd4 hf
  obtain ⟨S15, I15, J15, R24, e74, hf⟩ := hf
  refine AW_iN0v (w_X6_init_20 (d := 1) (Nat.le_refl _) e74) dX9_init_106 kl_X9_65 (Nat.le_trans (by decide) hd) (by decide) (Nat.le_of_ble_eq_true rfl) (fun _ => ?_)
  replace hf := rk_bd hf
  obtain ⟨_, e75, hf⟩ := hf
  have e75 := rk_ck_sp e75
  replace hf := rk_bd hf
  obtain ⟨_, e76, hf⟩ := hf
  have e76 := rk_ck_sp e76
  replace hf := rk_bd hf
  obtain ⟨R25, e77, hf⟩ := hf
  refine AW_wrR dX9_init_109 e75 (Or.inr (Or.inr (Or.inr rfl))) e76 e77 ?_
  refine AW_iinc_1 (v := 1) dX9_init_110 (by decide) (by decide) rfl ?_
  rw [show (0 : Int32) + 1 = 1 from by decide]
  refine AW_goto 92 dX9_init_113 (by decide) ?_
  refine AW_iload_n1 dX9_init_92 ?_
  refine AW_iconst (v := 4) dX9_init_93 (by decide) ?_
  refine AW_icmp_ge 116 dX9_init_94 (by decide) (fun h9 => absurd h9 (by decide)) (fun _ => ?_)
  refine AW_aload_n0 dX9_init_97 ?_
  replace hf := rk_bd hf
  obtain ⟨_, e78, hf⟩ := hf
  have e78 := rk_ck_sp e78
  replace hf := rk_bd hf
  obtain ⟨_, e79, hf⟩ := hf
  have e79 := rk_ckR_sp e79
  refine AW_getR dX9_init_98 kf_X9_57 rfl e78 (by decide) e79 ?_
  refine AW_iload_n1 dX9_init_101 ?_
  replace hf := rk_bd hf
  obtain ⟨S16, e81, hf⟩ := hf
  replace hf := rk_bd hf
  obtain ⟨I16, e82, hf⟩ := hf
  replace hf := rk_bd hf
  obtain ⟨J16, e83, hf⟩ := hf
  replace hf := rk_bd hf
  obtain ⟨R26, e84, hf⟩ := hf
  refine AW_nwO dX9_init_102 kc_X9_55 (by decide) e81 e82 e83 e84 ?_
  refine AW_dup dX9_init_105 rfl ?_
  replace hf := rk_bd4 hf
  obtain ⟨S17, I17, J17, R27, e85, hf⟩ := hf
  refine AW_iN0v (w_X6_init_22 (d := 1) (Nat.le_refl _) e85) dX9_init_106 kl_X9_65 (Nat.le_trans (by decide) hd) (by decide) (Nat.le_of_ble_eq_true rfl) (fun _ => ?_)
  replace hf := rk_bd hf
  obtain ⟨_, e86, hf⟩ := hf
  have e86 := rk_ck_sp e86
  replace hf := rk_bd hf
  obtain ⟨_, e87, hf⟩ := hf
  have e87 := rk_ck_sp e87
  replace hf := rk_bd hf
  obtain ⟨R28, e88, hf⟩ := hf
  refine AW_wrR dX9_init_109 e86 (Or.inr (Or.inr (Or.inr rfl))) e87 e88 ?_
  refine AW_iinc_1 (v := 1) dX9_init_110 (by decide) (by decide) rfl ?_
  rw [show (1 : Int32) + 1 = 2 from by decide]
  refine AW_goto 92 dX9_init_113 (by decide) ?_
  refine AW_iload_n1 dX9_init_92 ?_
  refine AW_iconst (v := 4) dX9_init_93 (by decide) ?_
  refine AW_icmp_ge 116 dX9_init_94 (by decide) (fun h9 => absurd h9 (by decide)) (fun _ => ?_)
  refine AW_aload_n0 dX9_init_97 ?_
  replace hf := rk_bd hf
  obtain ⟨_, e89, hf⟩ := hf
  have e89 := rk_ck_sp e89
  replace hf := rk_bd hf
  obtain ⟨_, e90, hf⟩ := hf
  have e90 := rk_ckR_sp e90
  refine AW_getR dX9_init_98 kf_X9_57 rfl e89 (by decide) e90 ?_
  refine AW_iload_n1 dX9_init_101 ?_
  replace hf := rk_bd hf
  obtain ⟨S18, e92, hf⟩ := hf
  replace hf := rk_bd hf
  obtain ⟨I18, e93, hf⟩ := hf
  replace hf := rk_bd hf
  obtain ⟨J18, e94, hf⟩ := hf
  replace hf := rk_bd hf
  obtain ⟨R29, e95, hf⟩ := hf
  refine AW_nwO dX9_init_102 kc_X9_55 (by decide) e92 e93 e94 e95 ?_
  refine AW_dup dX9_init_105 rfl ?_
  replace hf := rk_bd4 hf
  obtain ⟨S19, I19, J19, R30, e96, hf⟩ := hf
  refine AW_iN0v (w_X6_init_24 (d := 1) (Nat.le_refl _) e96) dX9_init_106 kl_X9_65 (Nat.le_trans (by decide) hd) (by decide) (Nat.le_of_ble_eq_true rfl) (fun _ => ?_)
  replace hf := rk_bd hf
  obtain ⟨_, e97, hf⟩ := hf
  have e97 := rk_ck_sp e97
  replace hf := rk_bd hf
  obtain ⟨_, e98, hf⟩ := hf
  have e98 := rk_ck_sp e98
  replace hf := rk_bd hf
  obtain ⟨R31, e99, hf⟩ := hf
  refine AW_wrR dX9_init_109 e97 (Or.inr (Or.inr (Or.inr rfl))) e98 e99 ?_
  refine AW_iinc_1 (v := 1) dX9_init_110 (by decide) (by decide) rfl ?_
  rw [show (2 : Int32) + 1 = 3 from by decide]
  refine AW_goto 92 dX9_init_113 (by decide) ?_
  refine AW_iload_n1 dX9_init_92 ?_
  refine AW_iconst (v := 4) dX9_init_93 (by decide) ?_
  refine AW_icmp_ge 116 dX9_init_94 (by decide) (fun h9 => absurd h9 (by decide)) (fun _ => ?_)
  refine AW_aload_n0 dX9_init_97 ?_
  replace hf := rk_bd hf
  obtain ⟨_, e100, hf⟩ := hf
  have e100 := rk_ck_sp e100
  replace hf := rk_bd hf
  obtain ⟨_, e101, hf⟩ := hf
  have e101 := rk_ckR_sp e101
  refine AW_getR dX9_init_98 kf_X9_57 rfl e100 (by decide) e101 ?_
  refine AW_iload_n1 dX9_init_101 ?_
  replace hf := rk_bd hf
  obtain ⟨S20, e103, hf⟩ := hf
  replace hf := rk_bd hf
  obtain ⟨I20, e104, hf⟩ := hf
  replace hf := rk_bd hf
  obtain ⟨J20, e105, hf⟩ := hf
  replace hf := rk_bd hf
  obtain ⟨R32, e106, hf⟩ := hf
  refine AW_nwO dX9_init_102 kc_X9_55 (by decide) e103 e104 e105 e106 ?_
  refine AW_dup dX9_init_105 rfl ?_
  replace hf := rk_bd4 hf
  obtain ⟨S21, I21, J21, R33, e107, hf⟩ := hf
  refine AW_iN0v (w_X6_init_26 (d := 1) (Nat.le_refl _) e107) dX9_init_106 kl_X9_65 (Nat.le_trans (by decide) hd) (by decide) (Nat.le_of_ble_eq_true rfl) (fun _ => ?_)
  replace hf := rk_bd hf
  obtain ⟨_, e108, hf⟩ := hf
  have e108 := rk_ck_sp e108
  replace hf := rk_bd hf
  obtain ⟨_, e109, hf⟩ := hf
  have e109 := rk_ck_sp e109
  replace hf := rk_bd hf
  obtain ⟨R34, e110, hf⟩ := hf
  refine AW_wrR dX9_init_109 e108 (Or.inr (Or.inr (Or.inr rfl))) e109 e110 ?_
  refine AW_iinc_1 (v := 1) dX9_init_110 (by decide) (by decide) rfl ?_
  rw [show (3 : Int32) + 1 = 4 from by decide]
  refine AW_goto 92 dX9_init_113 (by decide) ?_
  refine AW_iload_n1 dX9_init_92 ?_
  refine AW_iconst (v := 4) dX9_init_93 (by decide) ?_
  refine AW_icmp_ge 116 dX9_init_94 (by decide) (fun _ => ?_) (fun h9 => absurd h9 (by decide))
  refine AW_iconst (v := 0) dX9_init_116 (by decide) ?_
  refine AW_istore_n1 dX9_init_117 (by decide) rfl ?_
  refine AW_sb (rk_sbs (rk_sbs rk_sb0)) ?_
  replace hf := rk_bd2 hf
  obtain ⟨x1, I22, e111, hf⟩ := hf
  obtain ⟨m1, e111⟩ := rk_while_sp e111
  refine L_X9_init_w118 (Nat.le_trans (by decide) hd) ?_ m1 _ _ e111
  intro x1 I22 h9
  cases h9
  refine AW_aload_n0 dX9_init_146 ?_
  replace hf := rk_bd hf
  obtain ⟨_, e112, hf⟩ := hf
  have e112 := rk_ck_sp e112
  replace hf := rk_bd hf
  obtain ⟨_, e113, hf⟩ := hf
  have e113 := rk_ckR_sp e113
  refine AW_getR dX9_init_147 kf_X9_30 rfl e112 (by decide) e113 ?_
  replace hf := rk_bd hf
  obtain ⟨_, e114, hf⟩ := hf
  have e114 := rk_ck_sp e114
  replace hf := rk_bd hf
  obtain ⟨_, e115, hf⟩ := hf
  have e115 := rk_layC_sp e115
  replace hf := rk_bd2 hf
  obtain ⟨x2, I23, e116, hf⟩ := hf
  refine AW_iV0iz (w_X2_read (d := 64) (Nat.le_refl _) e115 e116) dX9_init_150 kl_X9_82 e114 rfl (Nat.le_trans (by decide) hd) (by decide) (Nat.le_of_ble_eq_true rfl) (fun _ => ?_)
  refine AW_pop dX9_init_153 rfl ?_
  refine AW_aload_n0 dX9_init_154 ?_
  replace hf := rk_bd hf
  obtain ⟨_, e117, hf⟩ := hf
  have e117 := rk_ckR_sp e117
  refine AW_getR dX9_init_155 kf_X9_23 rfl e112 (by decide) e117 ?_
  refine AW_iconst (v := 0) dX9_init_158 (by decide) ?_
  refine AW_aload_n0 dX9_init_159 ?_
  replace hf := rk_bd hf
  obtain ⟨_, e118, hf⟩ := hf
  have e118 := rk_ckR_sp e118
  refine AW_getR dX9_init_160 kf_X9_30 rfl e112 (by decide) e118 ?_
  replace hf := rk_bd6 hf
  obtain ⟨o1, n1, S22, I24, J22, R35, e119, hf⟩ := hf
  refine AW_iV0r (w_X2_asText (d := 2) (Nat.le_refl _) e115 e119) dX9_init_163 kl_X9_85 e114 rfl (Nat.le_trans (by decide) hd) (by decide) (Nat.le_of_ble_eq_true rfl) (fun _ => ?_)
  replace hf := rk_bd hf
  obtain ⟨_, e120, hf⟩ := hf
  have e120 := rk_ck_sp e120
  replace hf := rk_bd hf
  obtain ⟨_, e121, hf⟩ := hf
  have e121 := rk_ck_sp e121
  replace hf := rk_bd hf
  obtain ⟨R36, e122, hf⟩ := hf
  refine AW_wrR dX9_init_166 e120 (Or.inr (Or.inr (Or.inl rfl))) e121 e122 ?_
  refine AW_aload_n0 dX9_init_167 ?_
  refine AW_iconst (v := 1) dX9_init_168 (by decide) ?_
  replace hf := rk_bd hf
  obtain ⟨_, e123, hf⟩ := hf
  have e123 := rk_ck_sp e123
  replace hf := rk_bd hf
  obtain ⟨I25, e124, hf⟩ := hf
  refine AW_puI dX9_init_169 kf_X9_89 rfl e123 (by decide) e124 ?_
  refine AW_aload_n0 dX9_init_172 ?_
  replace hf := rk_bd hf
  obtain ⟨_, e125, hf⟩ := hf
  have e125 := rk_ckR_sp e125
  refine AW_getR dX9_init_173 kf_X9_30 rfl e123 (by decide) e125 ?_
  replace hf := rk_bd hf
  obtain ⟨_, e126, hf⟩ := hf
  have e126 := rk_ck_sp e126
  replace hf := rk_bd hf
  obtain ⟨_, e127, hf⟩ := hf
  have e127 := rk_layC_sp e127
  replace hf := rk_bd hf
  obtain ⟨I26, e128, hf⟩ := hf
  refine AW_iV0vz (w_X2_empty (d := 0) e127 e128) dX9_init_176 kl_X9_93 e126 rfl (Nat.le_trans (by decide) hd) (by decide) (Nat.le_of_ble_eq_true rfl) (fun _ => ?_)
  replace hf := rk_bd hf
  obtain ⟨_, e129, hf⟩ := hf
  have e129 := rk_ckn_sp e129
  subst e129
  exact AW_vret dX9_init_179 rfl (hq _ _ _ _ (Option.some.inj hf).symm e127)
theorem w_X9_init {G : rk_G} {l : Launch} {d : Nat} {S : rk_Sh} {I : rk_I} {J : rk_J} {R : rk_R}  {S8 : rk_Sh} {I8 : rk_I} {J8 : rk_J} {R8 : rk_R} (hd : 65 ≤ d) (hf : f_X9_init S I J R = some (S8, I8, J8, R8)) :
    CW G l yX9_init cX9_init 2 none d 30 1436 [.ref 0] 1 S I J R (rk_qv 31 S8 I8 J8 R8 (rk_LC S8 R8)) :=
  CW.of (by decide +kernel) (Nat.le_of_ble_eq_true rfl) (rk_sbs (rk_sbe rk_sb0)) (b_X9_init hd hf (fun S9 I9 J9 R9 h9 hl9 => by cases h9; exact ⟨rfl, rfl, rfl, rfl, rfl, rfl, hl9⟩))
