noncomputable def f_J0_coder_7d493_1000001  : Option (Int32) :=
some 0
theorem b_J0_coder_7d493_1000001 {G : rk_G} {l : Launch} {d kc ks : Nat} {n : Nat} {S : rk_Sh} {I : rk_I} {J : rk_J} {R : rk_R} {Q : rk_Q}  {r : Int32} (hf : f_J0_coder_7d493_1000001 = some r) (hq : ∀ (v9 : Int32), r = v9 → Q (some (.int v9)) n S I J R) :
    AW G l yJ0_coder_7d493 cJ0_coder_7d493 1 (some .byte) d kc ks 0 [some (.ref 1000001)] [] n S I J R Q := by
  unfold f_J0_coder_7d493_1000001 at hf
  refine AW_gsZ dJ0_coder_7d493_0 ky_J0_38 ?_
  refine AW_if_eq 13 dJ0_coder_7d493_3 (by decide) (fun h9 => absurd h9 (by decide)) (fun _ => ?_)
  refine AW_aload_n0 dJ0_coder_7d493_6 ?_
  refine AW_scoder 0 (by decide) dJ0_coder_7d493_7 ky_J0_15 ?_
  refine AW_goto 14 dJ0_coder_7d493_10 (by decide) ?_
  exact AW_bret dJ0_coder_7d493_14 rfl (by decide) (hq _ (Option.some.inj hf).symm)
theorem w_J0_coder_7d493_1000001 {G : rk_G} {l : Launch} {d : Nat} {n : Nat} {S : rk_Sh} {I : rk_I} {J : rk_J} {R : rk_R}  {v8 : Int32} (hf : f_J0_coder_7d493_1000001 = some v8) :
    CW G l yJ0_coder_7d493 cJ0_coder_7d493 1 (some .byte) d 0 0 [.ref 1000001] n S I J R (rk_qi v8 n S I J R True) :=
  CW.of (by decide +kernel) (Nat.le_of_ble_eq_true rfl) (rk_sbs rk_sb0) (b_J0_coder_7d493_1000001 hf (fun v9 h9 => by cases h9; exact ⟨rfl, rfl, rfl, rfl, rfl, rfl, trivial⟩))
noncomputable def f_J0_length_8abf5_1000001  : Option (Int32) :=
(f_J0_coder_7d493_1000001 ).bind fun x1 =>
some (45 >>> (x1 &&& 31))
theorem b_J0_length_8abf5_1000001 {G : rk_G} {l : Launch} {d kc ks : Nat} {n : Nat} {S : rk_Sh} {I : rk_I} {J : rk_J} {R : rk_R} {Q : rk_Q}  {r : Int32} (hd : 1 ≤ d) (hf : f_J0_length_8abf5_1000001 = some r) (hq : ∀ (v9 : Int32), r = v9 → Q (some (.int v9)) n S I J R) :
    AW G l yJ0_length_8abf5 cJ0_length_8abf5 1 (some .int) d kc ks 0 [some (.ref 1000001)] [] n S I J R Q := by
  unfold f_J0_length_8abf5_1000001 at hf
  refine AW_aload_n0 dJ0_length_8abf5_0 ?_
  refine AW_svalue 0 (by decide) dJ0_length_8abf5_1 ky_J0_9 ?_
  refine AW_salen 0 (v := 45) (by decide) dJ0_length_8abf5_4 (by decide) ?_
  refine AW_aload_n0 dJ0_length_8abf5_5 ?_
  replace hf := rk_bd hf
  obtain ⟨x1, e1, hf⟩ := hf
  refine AW_iY0iz 0 (w_J0_coder_7d493_1000001 (d := 0) e1) dJ0_length_8abf5_6 kl_J0_335 (by decide) rfl (Nat.le_trans (by decide) hd) (by decide) (Nat.le_of_ble_eq_true rfl) (fun _ => ?_)
  refine AW_ishr dJ0_length_8abf5_9 ?_
  exact AW_iret dJ0_length_8abf5_10 rfl (hq _ (Option.some.inj hf).symm)
theorem w_J0_length_8abf5_1000001 {G : rk_G} {l : Launch} {d : Nat} {n : Nat} {S : rk_Sh} {I : rk_I} {J : rk_J} {R : rk_R}  {v8 : Int32} (hd : 1 ≤ d) (hf : f_J0_length_8abf5_1000001 = some v8) :
    CW G l yJ0_length_8abf5 cJ0_length_8abf5 1 (some .int) d 0 0 [.ref 1000001] n S I J R (rk_qi v8 n S I J R True) :=
  CW.of (by decide +kernel) (Nat.le_of_ble_eq_true rfl) (rk_sbs rk_sb0) (b_J0_length_8abf5_1000001 hd hf (fun v9 h9 => by cases h9; exact ⟨rfl, rfl, rfl, rfl, rfl, rfl, trivial⟩))
noncomputable def f_J0_isLatin1_aae02_1000001  : Option (Int32) :=
some 1
theorem b_J0_isLatin1_aae02_1000001 {G : rk_G} {l : Launch} {d kc ks : Nat} {n : Nat} {S : rk_Sh} {I : rk_I} {J : rk_J} {R : rk_R} {Q : rk_Q}  {r : Int32} (hf : f_J0_isLatin1_aae02_1000001 = some r) (hq : ∀ (v9 : Int32), r = v9 → Q (some (.int v9)) n S I J R) :
    AW G l yJ0_isLatin1_aae02 cJ0_isLatin1_aae02 1 (some .boolean) d kc ks 0 [some (.ref 1000001)] [] n S I J R Q := by
  unfold f_J0_isLatin1_aae02_1000001 at hf
  refine AW_gsZ dJ0_isLatin1_aae02_0 ky_J0_38 ?_
  refine AW_if_eq 17 dJ0_isLatin1_aae02_3 (by decide) (fun h9 => absurd h9 (by decide)) (fun _ => ?_)
  refine AW_aload_n0 dJ0_isLatin1_aae02_6 ?_
  refine AW_scoder 0 (by decide) dJ0_isLatin1_aae02_7 ky_J0_15 ?_
  refine AW_if_ne 17 dJ0_isLatin1_aae02_10 (by decide) (fun h9 => absurd h9 (by decide)) (fun _ => ?_)
  refine AW_iconst (v := 1) dJ0_isLatin1_aae02_13 (by decide) ?_
  refine AW_goto 18 dJ0_isLatin1_aae02_14 (by decide) ?_
  exact AW_zret dJ0_isLatin1_aae02_18 rfl rfl (hq _ (Option.some.inj hf).symm)
theorem w_J0_isLatin1_aae02_1000001 {G : rk_G} {l : Launch} {d : Nat} {n : Nat} {S : rk_Sh} {I : rk_I} {J : rk_J} {R : rk_R}  {v8 : Int32} (hf : f_J0_isLatin1_aae02_1000001 = some v8) :
    CW G l yJ0_isLatin1_aae02 cJ0_isLatin1_aae02 1 (some .boolean) d 0 0 [.ref 1000001] n S I J R (rk_qi v8 n S I J R True) :=
  CW.of (by decide +kernel) (Nat.le_of_ble_eq_true rfl) (rk_sbs rk_sb0) (b_J0_isLatin1_aae02_1000001 hf (fun v9 h9 => by cases h9; exact ⟨rfl, rfl, rfl, rfl, rfl, rfl, trivial⟩))
noncomputable def f_J1_charAt_3b067_1000002 (a1 : Int32) : Option (Int32) :=
(f_J0_checkIndex_df160 a1 45).bind fun _ =>
(rk_sbd 0 a1).bind fun x1 =>
(rk_ch (rk_ic (x1 &&& 255))).bind fun x2 =>
some x2
theorem b_J1_charAt_3b067_1000002 {G : rk_G} {l : Launch} {d kc ks : Nat} {n : Nat} {S : rk_Sh} {I : rk_I} {J : rk_J} {R : rk_R} {Q : rk_Q} {a1 : Int32} {r : Int32} (hd : 2 ≤ d) (hf : f_J1_charAt_3b067_1000002 a1 = some r) (hq : ∀ (v9 : Int32), r = v9 → Q (some (.int v9)) n S I J R) :
    AW G l yJ1_charAt_3b067 cJ1_charAt_3b067 2 (some .char) d kc ks 0 [some (.ref 1000002), some (.int a1)] [] n S I J R Q := by
  unfold f_J1_charAt_3b067_1000002 at hf
  refine AW_iload_n1 dJ1_charAt_3b067_0 ?_
  refine AW_aload_n0 dJ1_charAt_3b067_1 ?_
  refine AW_salen 0 (v := 45) (by decide) dJ1_charAt_3b067_2 (by decide) ?_
  replace hf := rk_bd hf
  obtain ⟨_, e1, hf⟩ := hf
  refine AW_iS2vz (w_J0_checkIndex_df160 (d := 1) (Nat.le_refl _) e1) dJ1_charAt_3b067_3 kl_J1_9 (Nat.le_trans (by decide) hd) (by decide) (Nat.le_of_ble_eq_true rfl) (fun _ => ?_)
  refine AW_aload_n0 dJ1_charAt_3b067_6 ?_
  refine AW_iload_n1 dJ1_charAt_3b067_7 ?_
  replace hf := rk_bd hf
  obtain ⟨x1, e2, hf⟩ := hf
  refine AW_sbald 0 (by decide) dJ1_charAt_3b067_8 e2 ?_
  refine AW_sipush (v := 255) dJ1_charAt_3b067_9 (by decide) ?_
  refine AW_iand dJ1_charAt_3b067_12 ?_
  refine AW_ic dJ1_charAt_3b067_13 ?_
  replace hf := rk_bd hf
  obtain ⟨x2, e3, hf⟩ := hf
  exact AW_cr dJ1_charAt_3b067_14 rfl e3 (hq _ (Option.some.inj hf).symm)
theorem w_J1_charAt_3b067_1000002 {G : rk_G} {l : Launch} {d : Nat} {n : Nat} {S : rk_Sh} {I : rk_I} {J : rk_J} {R : rk_R} {a1 : Int32} {v8 : Int32} (hd : 2 ≤ d) (hf : f_J1_charAt_3b067_1000002 a1 = some v8) :
    CW G l yJ1_charAt_3b067 cJ1_charAt_3b067 2 (some .char) d 0 0 [.ref 1000002, .int a1] n S I J R (rk_qi v8 n S I J R True) :=
  CW.of (by decide +kernel) (Nat.le_of_ble_eq_true rfl) (rk_sbs (rk_sbs rk_sb0)) (b_J1_charAt_3b067_1000002 hd hf (fun v9 h9 => by cases h9; exact ⟨rfl, rfl, rfl, rfl, rfl, rfl, trivial⟩))
noncomputable def f_J0_charAt_5068e_1000001 (a1 : Int32) : Option (Int32) :=
(f_J0_isLatin1_aae02_1000001 ).bind fun x1 =>
if x1 = 0 then (
none) else (
(f_J1_charAt_3b067_1000002 a1).bind fun x2 =>
(rk_ch x2).bind fun x3 =>
some x3)
theorem b_J0_charAt_5068e_1000001 {G : rk_G} {l : Launch} {d kc ks : Nat} {n : Nat} {S : rk_Sh} {I : rk_I} {J : rk_J} {R : rk_R} {Q : rk_Q} {a1 : Int32} {r : Int32} (hd : 3 ≤ d) (hf : f_J0_charAt_5068e_1000001 a1 = some r) (hq : ∀ (v9 : Int32), r = v9 → Q (some (.int v9)) n S I J R) :
    AW G l yJ0_charAt_5068e cJ0_charAt_5068e 2 (some .char) d kc ks 0 [some (.ref 1000001), some (.int a1)] [] n S I J R Q := by
  unfold f_J0_charAt_5068e_1000001 at hf
  refine AW_aload_n0 dJ0_charAt_5068e_0 ?_
  replace hf := rk_bd hf
  obtain ⟨x1, e1, hf⟩ := hf
  refine AW_iY0iz 0 (w_J0_isLatin1_aae02_1000001 (d := 0) e1) dJ0_charAt_5068e_1 kl_J0_492 (by decide) rfl (Nat.le_trans (by decide) hd) (by decide) (Nat.le_of_ble_eq_true rfl) (fun _ => ?_)
  refine AW_if_eq 16 dJ0_charAt_5068e_4 (by decide) (fun h1 => ?_) (fun h1 => ?_)
  · replace hf := rk_it hf h1
    refine AW_aload_n0 dJ0_charAt_5068e_16 ?_
    refine AW_svalue 0 (by decide) dJ0_charAt_5068e_17 ky_J0_9 ?_
    refine AW_iload_n1 dJ0_charAt_5068e_20 ?_
    cases hf
  · replace hf := rk_if hf h1
    refine AW_aload_n0 dJ0_charAt_5068e_7 ?_
    refine AW_svalue 0 (by decide) dJ0_charAt_5068e_8 ky_J0_9 ?_
    refine AW_iload_n1 dJ0_charAt_5068e_11 ?_
    replace hf := rk_bd hf
    obtain ⟨x2, e2, hf⟩ := hf
    refine AW_iS2iz (w_J1_charAt_3b067_1000002 (d := 2) (Nat.le_refl _) e2) dJ0_charAt_5068e_12 kl_J0_495 (Nat.le_trans (by decide) hd) (by decide) (Nat.le_of_ble_eq_true rfl) (fun _ => ?_)
    replace hf := rk_bd hf
    obtain ⟨x3, e3, hf⟩ := hf
    exact AW_cr dJ0_charAt_5068e_15 rfl e3 (hq _ (Option.some.inj hf).symm)
theorem w_J0_charAt_5068e_1000001 {G : rk_G} {l : Launch} {d : Nat} {n : Nat} {S : rk_Sh} {I : rk_I} {J : rk_J} {R : rk_R} {a1 : Int32} {v8 : Int32} (hd : 3 ≤ d) (hf : f_J0_charAt_5068e_1000001 a1 = some v8) :
    CW G l yJ0_charAt_5068e cJ0_charAt_5068e 2 (some .char) d 0 0 [.ref 1000001, .int a1] n S I J R (rk_qi v8 n S I J R True) :=
  CW.of (by decide +kernel) (Nat.le_of_ble_eq_true rfl) (rk_sbs (rk_sbs rk_sb0)) (b_J0_charAt_5068e_1000001 hd hf (fun v9 h9 => by cases h9; exact ⟨rfl, rfl, rfl, rfl, rfl, rfl, trivial⟩))
