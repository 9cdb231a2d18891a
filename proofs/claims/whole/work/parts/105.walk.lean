noncomputable def f_gW : Nat → Nat → Int32 → Int32 → Int32 → Int32 → rk_Sh → rk_I → rk_R → Option (rk_I)
  | 0, _, _, _, _, _, _, _, _ => none
  | k + 1, t, x0, x1, x2, x3, S, I, R => f_X4_walk (f_gW k) S I R x0 x1 x2 x3
theorem GG_gW {G : rk_G} {l : Launch} : ∀ k : Nat, (∀ (n : Nat) (S : rk_Sh) (I : rk_I) (J : rk_J) (R : rk_R) (x0 : Int32) (x1 : Int32) (x2 : Int32) (x3 : Int32) (I9 : rk_I), rk_LC S R → f_gW k 0 x0 x1 x2 x3 S I R = some I9 → CW G l yX4_walk cX4_walk 7 none (k + 3) 0 0 [.ref 16, .int x0, .int x1, .int x2, .int x3] n S I J R (rk_qv n S I9 J R True)) := by
  intro k
  induction k with
  | zero => exact (fun _ _ _ _ _ _ _ _ _ _ _ h => (by cases h))
  | succ k ih =>
    have hr0 := ih
    exact (fun _ _ _ _ _ _ _ _ _ _ hL hf => w_X4_walk (d0 := k + 3) (rec := f_gW k) (by omega) hr0 (by omega) hL hf)
theorem w_X4_walk_g {G : rk_G} {l : Launch} {n : Nat} {S : rk_Sh} {I : rk_I} {J : rk_J} {R : rk_R} {x0 : Int32} {x1 : Int32} {x2 : Int32} {x3 : Int32} {I9 : rk_I} (hL : rk_LC S R) (hf : f_gW 12 0 x0 x1 x2 x3 S I R = some I9) : CW G l yX4_walk cX4_walk 7 none 15 0 0 [.ref 16, .int x0, .int x1, .int x2, .int x3] n S I J R (rk_qv n S I9 J R True) := (GG_gW 12) n S I J R _ _ _ _ _ hL hf
noncomputable def f_X4_least_16_2_x_l23 (S : rk_Sh) (I : rk_I) (R : rk_R) (u3 : Nat) (s4 : Int32) : Option ((Int32 × rk_I) ⊕ (Int32 × rk_I)) :=
if (I 16 2) ≤ s4 then (
some (.inr (s4, I))) else (
(rk_rdR R 2 24 s4).bind fun q1 =>
(rk_dr S 5 11 q1).bind fun o1 =>
(some (R o1 1)).bind fun q2 =>
(rk_dr S 0 5 q2).bind fun o2 =>
if o2 = u3 then (
(f_gW 12 0 s4 (I o1 3) (1 <<< (s4 &&& 31)) (1 <<< ((I o1 3) &&& 31)) S I R).bind fun I1 =>
some (.inl ((s4 + 1), I1))) else (
some (.inl ((s4 + 1), I))))
theorem b_X4_least_16_2_x_l23 {G : rk_G} {l : Launch} {d kc ks : Nat} {n : Nat} {S : rk_Sh} {I : rk_I} {J : rk_J} {R : rk_R} {Q : rk_Q} {u3 : Nat} {s4 : Int32} {r : (Int32 × rk_I) ⊕ (Int32 × rk_I)} (hd : 16 ≤ d) (hS_u3 : S u3 = (0, 5)) (hL : rk_LC S R) (hf : f_X4_least_16_2_x_l23 S I R u3 s4 = some r) (hc : ∀ (w0 : Int32) (I9 : rk_I), r = .inl (w0, I9) → AW G l yX4_least cX4_least 5 (some .int) d kc ks 23 [some (.ref 16), some (.ref 2), none, some (.ref u3), some (.int w0)] [] n S I9 J R Q) (he : ∀ (w0 : Int32) (I9 : rk_I), r = .inr (w0, I9) → AW G l yX4_least cX4_least 5 (some .int) d kc ks 75 [some (.ref 16), some (.ref 2), none, some (.ref u3), some (.int w0)] [] n S I9 J R Q) :
    AW G l yX4_least cX4_least 5 (some .int) d kc ks 23 [some (.ref 16), some (.ref 2), none, some (.ref u3), some (.int s4)] [] n S I J R Q := by
  unfold f_X4_least_16_2_x_l23 at hf
  refine AW_iload_4 dX4_least_23 ?_
  refine AW_aload_n0 dX4_least_25 ?_
  refine AW_getI dX4_least_26 kf_X4_19 rfl (hL.1 16 (by decide)) (by decide) ?_
  refine AW_icmp_ge 75 dX4_least_29 (by decide) (fun h1 => ?_) (fun h1 => ?_)
  · replace hf := rk_it hf h1
    refine AW_sb (rk_sbs (rk_sbs (rk_sbn (rk_sbs (rk_sbs rk_sb0))))) ?_
    exact he _ _ (Option.some.inj hf).symm
  · replace hf := rk_if hf h1
    refine AW_aload_n1 dX4_least_32 ?_
    refine AW_iload_4 dX4_least_33 ?_
    replace hf := rk_bd hf
    obtain ⟨q1, e1, hf⟩ := hf
    refine AW_rdR dX4_least_35 (hL.1 2 (by decide)) (by decide) e1 ?_
    replace hf := rk_bd hf
    obtain ⟨o1, e2, hf⟩ := hf
    obtain ⟨e2, hS1⟩ := rk_dr_sp e2
    subst e2
    replace hf := rk_bd hf
    obtain ⟨q2, e3, hf⟩ := hf
    refine AW_getQ dX4_least_36 kf_X4_67 rfl hS1 (by decide) e3 ?_
    refine AW_aload_n3 dX4_least_39 ?_
    replace hf := rk_bd hf
    obtain ⟨o2, e4, hf⟩ := hf
    obtain ⟨e4, hS2⟩ := rk_dr_sp e4
    subst e4
    refine AW_acmS_ne 69 dX4_least_40 (by decide) hS2 (by decide) hS_u3 (by decide) (fun h2 => ?_) (fun h2 => ?_)
    · replace hf := rk_if hf h2
      refine AW_iinc_4 (v := 1) dX4_least_69 (by decide) (by decide) rfl ?_
      refine AW_goto 23 dX4_least_72 (by decide) ?_
      refine AW_sb (rk_sbs (rk_sbs (rk_sbn (rk_sbs (rk_sbs rk_sb0))))) ?_
      exact hc _ _ (Option.some.inj hf).symm
    · replace hf := rk_it hf h2
      refine AW_aload_n0 dX4_least_43 ?_
      refine AW_iload_4 dX4_least_44 ?_
      refine AW_aload_n1 dX4_least_46 ?_
      refine AW_iload_4 dX4_least_47 ?_
      refine AW_rdR (q := (some o1)) dX4_least_49 (hL.1 2 (by decide)) (by decide) e1 ?_
      refine AW_getI dX4_least_50 kf_X4_55 rfl hS1 (by decide) ?_
      refine AW_iconst (v := 1) dX4_least_53 (by decide) ?_
      refine AW_iload_4 dX4_least_54 ?_
      refine AW_ishl dX4_least_56 ?_
      refine AW_iconst (v := 1) dX4_least_57 (by decide) ?_
      refine AW_aload_n1 dX4_least_58 ?_
      refine AW_iload_4 dX4_least_59 ?_
      refine AW_rdR (q := (some o1)) dX4_least_61 (hL.1 2 (by decide)) (by decide) e1 ?_
      refine AW_getI dX4_least_62 kf_X4_55 rfl hS1 (by decide) ?_
      refine AW_ishl dX4_least_65 ?_
      replace hf := rk_bd hf
      obtain ⟨I1, e5, hf⟩ := hf
      refine AW_iV4vz (w_X4_walk_g hL e5) dX4_least_66 kl_X4_71 (hL.1 16 (by decide)) rfl (Nat.le_trans (by decide) hd) (by decide) (Nat.le_of_ble_eq_true rfl) (fun _ => ?_)
      refine AW_iinc_4 (v := 1) dX4_least_69 (by decide) (by decide) rfl ?_
      refine AW_goto 23 dX4_least_72 (by decide) ?_
      refine AW_sb (rk_sbs (rk_sbs (rk_sbn (rk_sbs (rk_sbs rk_sb0))))) ?_
      exact hc _ _ (Option.some.inj hf).symm
theorem L_X4_least_16_2_x_w23 {G : rk_G} {l : Launch} {d kc ks : Nat} {n : Nat} {S : rk_Sh} {J : rk_J} {R : rk_R} {Q : rk_Q} {u3 : Nat} {r : Int32 × rk_I} (hd : 16 ≤ d) (hS_u3 : S u3 = (0, 5)) (hL : rk_LC S R) (he : ∀ (w0 : Int32) (I9 : rk_I), r = (w0, I9) → AW G l yX4_least cX4_least 5 (some .int) d kc ks 75 [some (.ref 16), some (.ref 2), none, some (.ref u3), some (.int w0)] [] n S I9 J R Q) :
    ∀ (m9 : Nat) (s4 : Int32) (I : rk_I), rk_loop (fun a9 => f_X4_least_16_2_x_l23 S a9.2 R u3 a9.1) m9 (s4, I) = some r → AW G l yX4_least cX4_least 5 (some .int) d kc ks 23 [some (.ref 16), some (.ref 2), none, some (.ref u3), some (.int s4)] [] n S I J R Q := by
  intro m9
  induction m9 with
  | zero => intro s4 I hf; cases hf
  | succ m9 ih =>
    intro s4 I hf 
    obtain ⟨r9, hf, hr⟩ := rk_loop_s hf
    exact b_X4_least_16_2_x_l23 hd hS_u3 hL hf (fun _ _ h9 => by subst h9; exact ih _ _ hr) (fun _ _ h9 => by subst h9; exact he _ _ hr.symm)
noncomputable def f_X4_least_16_2_x (S : rk_Sh) (I : rk_I) (R : rk_R) (a2 : Int32) (a3 : Nat) : Option (Int32 × rk_I × rk_R) :=
(some (rk_ur R 16 1 (some 2))).bind fun R1 =>
(some (rk_ui I 16 2 (rk_min a2 12))).bind fun I1 =>
(some (rk_ui I1 16 3 (-1))).bind fun I2 =>
rk_b2 (rk_while (fun a9 => f_X4_least_16_2_x_l23 S a9.2 R1 a3 a9.1) (0, I2)) fun x1 I3 =>
some ((I3 16 3), I3, R1)
theorem b_X4_least_16_2_x {G : rk_G} {l : Launch} {d kc ks : Nat} {n : Nat} {S : rk_Sh} {I : rk_I} {J : rk_J} {R : rk_R} {Q : rk_Q} {a2 : Int32} {a3 : Nat} {r : Int32 × rk_I × rk_R} (hd : 16 ≤ d) (hS_a3 : S a3 = (0, 5)) (hL : rk_LC S R) (hf : f_X4_least_16_2_x S I R a2 a3 = some r) (hq : ∀ (v9 : Int32) (I9 : rk_I) (R9 : rk_R), r = (v9, I9, R9) → rk_LC S R9 → Q (some (.int v9)) n S I9 J R9) :
    AW G l yX4_least cX4_least 5 (some .int) d kc ks 0 [some (.ref 16), some (.ref 2), some (.int a2), some (.ref a3), none] [] n S I J R Q := by
  unfold f_X4_least_16_2_x at hf
  refine AW_aload_n0 dX4_least_0 ?_
  refine AW_aload_n1 dX4_least_1 ?_
  replace hf := rk_bd hf
  obtain ⟨R1, e1, hf⟩ := hf
  refine AW_puA dX4_least_2 kf_X4_15 rfl (hL.1 16 (by decide)) (by decide) e1 ?_
  have hL1 := rk_LC_ur hL e1 rfl
  refine AW_aload_n0 dX4_least_5 ?_
  refine AW_iload_n2 dX4_least_6 ?_
  refine AW_bipush (v := 12) dX4_least_7 (by decide) ?_
  refine AW_mmin dX4_least_9 km_X4_58 (Nat.le_trans (by decide) hd) (Nat.le_of_ble_eq_true rfl) ?_
  replace hf := rk_bd hf
  obtain ⟨I1, e2, hf⟩ := hf
  refine AW_puI dX4_least_12 kf_X4_19 rfl (hL1.1 16 (by decide)) (by decide) e2 ?_
  refine AW_aload_n0 dX4_least_15 ?_
  refine AW_iconst (v := (-1)) dX4_least_16 (by decide) ?_
  replace hf := rk_bd hf
  obtain ⟨I2, e3, hf⟩ := hf
  refine AW_puI dX4_least_17 kf_X4_64 rfl (hL1.1 16 (by decide)) (by decide) e3 ?_
  refine AW_iconst (v := 0) dX4_least_20 (by decide) ?_
  refine AW_istore_4 dX4_least_21 (by decide) rfl ?_
  refine AW_sb (rk_sbs (rk_sbs (rk_sbn (rk_sbs (rk_sbs rk_sb0))))) ?_
  replace hf := rk_bd2 hf
  obtain ⟨x1, I3, e4, hf⟩ := hf
  obtain ⟨m1, e4⟩ := rk_while_sp e4
  refine L_X4_least_16_2_x_w23 (Nat.le_trans (by decide) hd) hS_a3 hL1 ?_ m1 _ _ e4
  intro x1 I3 h9
  cases h9
  refine AW_aload_n0 dX4_least_75 ?_
  refine AW_getI dX4_least_76 kf_X4_64 rfl (hL1.1 16 (by decide)) (by decide) ?_
  exact AW_iret dX4_least_79 rfl (hq _ _ _ (Option.some.inj hf).symm hL1)
theorem w_X4_least_16_2_x {G : rk_G} {l : Launch} {d : Nat} {n : Nat} {S : rk_Sh} {I : rk_I} {J : rk_J} {R : rk_R} {a2 : Int32} {a3 : Nat} {v8 : Int32} {I8 : rk_I} {R8 : rk_R} (hd : 16 ≤ d) (hS_a3 : S a3 = (0, 5)) (hL : rk_LC S R) (hf : f_X4_least_16_2_x S I R a2 a3 = some (v8, I8, R8)) :
    CW G l yX4_least cX4_least 5 (some .int) d 0 0 [.ref 16, .ref 2, .int a2, .ref a3] n S I J R (rk_qi v8 n S I8 J R8 (rk_LC S R8)) :=
  CW.of (by decide +kernel) (Nat.le_of_ble_eq_true rfl) (rk_sbs (rk_sbs (rk_sbs (rk_sbs (rk_sbe rk_sb0))))) (b_X4_least_16_2_x hd hS_a3 hL hf (fun v9 I9 R9 h9 hl9 => by cases h9; exact ⟨rfl, rfl, rfl, rfl, rfl, rfl, hl9⟩))
noncomputable def f_X9_found (S : rk_Sh) (I : rk_I) (R : rk_R) (a1 : Int32) : Option (Int32 × rk_I × rk_R) :=
(f_X9_cargoAt I R a1).bind fun q1 =>
rk_oc q1 (
some ((-2), I, R)) (fun o1 => (
rk_b3 (f_X4_least_16_2_x S I R (I 0 3) o1) fun x1 I1 R1 =>
(rk_ck S o1 0 5).bind fun _ =>
some (x1, I1, R1)))
theorem b_X9_found {G : rk_G} {l : Launch} {d kc ks : Nat} {n : Nat} {S : rk_Sh} {I : rk_I} {J : rk_J} {R : rk_R} {Q : rk_Q} {a1 : Int32} {r : Int32 × rk_I × rk_R} (hd : 17 ≤ d) (hL : rk_LC S R) (hf : f_X9_found S I R a1 = some r) (hq : ∀ (v9 : Int32) (I9 : rk_I) (R9 : rk_R), r = (v9, I9, R9) → rk_LC S R9 → Q (some (.int v9)) n S I9 J R9) :
    AW G l yX9_found cX9_found 3 (some .int) d kc ks 0 [some (.ref 0), some (.int a1), none] [] n S I J R Q := by
  unfold f_X9_found at hf
  refine AW_aload_n0 dX9_found_0 ?_
  refine AW_iload_n1 dX9_found_1 ?_
  replace hf := rk_bd hf
  obtain ⟨q1, e1, hf⟩ := hf
  refine AW_iV1oz (w_X9_cargoAt (d := 0) hL e1) dX9_found_2 kl_X9_109 (hL.1 0 (by decide)) rfl (Nat.le_trans (by decide) hd) (by decide) (Nat.le_of_ble_eq_true rfl) (fun _ => ?_)
  refine AW_astoreO_n2 dX9_found_5 (by decide) rfl ?_
  refine AW_aloadO_n2 dX9_found_6 ?_
  rcases q1 with _ | o1
  · replace hf := rk_oc_n hf
    refine AW_ifnonnullN dX9_found_7 ?_
    refine AW_bipush (v := (-2)) dX9_found_10 (by decide) ?_
    refine AW_goto 31 dX9_found_12 (by decide) ?_
    exact AW_iret dX9_found_31 rfl (hq _ _ _ (Option.some.inj hf).symm hL)
  · replace hf := rk_oc_s hf
    refine AW_ifnonnull 15 dX9_found_7 (by decide) ?_
    refine AW_aload_n0 dX9_found_15 ?_
    refine AW_getR dX9_found_16 kf_X9_51 rfl (hL.1 0 (by decide)) (by decide) (hL.2 0 10 16 rfl) ?_
    refine AW_aload_n0 dX9_found_19 ?_
    refine AW_getR dX9_found_20 kf_X9_17 rfl (hL.1 0 (by decide)) (by decide) (hL.2 0 2 2 rfl) ?_
    refine AW_aload_n0 dX9_found_23 ?_
    refine AW_getI dX9_found_24 kf_X9_125 rfl (hL.1 0 (by decide)) (by decide) ?_
    refine AW_aload_n2 dX9_found_27 ?_
    replace hf := rk_bd3 hf
    obtain ⟨x1, I1, R1, e2, hf⟩ := hf
    replace hf := rk_bd hf
    obtain ⟨_, e3, hf⟩ := hf
    have e3 := rk_ck_sp e3
    refine AW_iV3iz (w_X4_least_16_2_x (d := 16) (Nat.le_refl _) e3 hL e2) dX9_found_28 kl_X9_223 (hL.1 16 (by decide)) rfl (Nat.le_trans (by decide) hd) (by decide) (Nat.le_of_ble_eq_true rfl) (fun hL1 => ?_)
    exact AW_iret dX9_found_31 rfl (hq _ _ _ (Option.some.inj hf).symm hL1)
theorem w_X9_found {G : rk_G} {l : Launch} {d : Nat} {n : Nat} {S : rk_Sh} {I : rk_I} {J : rk_J} {R : rk_R} {a1 : Int32} {v8 : Int32} {I8 : rk_I} {R8 : rk_R} (hd : 17 ≤ d) (hL : rk_LC S R) (hf : f_X9_found S I R a1 = some (v8, I8, R8)) :
    CW G l yX9_found cX9_found 3 (some .int) d 0 0 [.ref 0, .int a1] n S I J R (rk_qi v8 n S I8 J R8 (rk_LC S R8)) :=
  CW.of (by decide +kernel) (Nat.le_of_ble_eq_true rfl) (rk_sbs (rk_sbs (rk_sbe rk_sb0))) (b_X9_found hd hL hf (fun v9 I9 R9 h9 hl9 => by cases h9; exact ⟨rfl, rfl, rfl, rfl, rfl, rfl, hl9⟩))
noncomputable def f_X10_bitsOf_l4 (s1 : Int32) (s2 : Int32) : Option ((Int32 × Int32) ⊕ (Int32 × Int32)) :=
if s2 = 0 then (
some (.inr (s1, s2))) else (
some (.inl ((s1 + 1), (s2 &&& (s2 - 1)))))
theorem b_X10_bitsOf_l4 {G : rk_G} {l : Launch} {d kc ks : Nat} {n : Nat} {S : rk_Sh} {I : rk_I} {J : rk_J} {R : rk_R} {Q : rk_Q} {s1 : Int32} {s2 : Int32} {r : (Int32 × Int32) ⊕ (Int32 × Int32)} (hf : f_X10_bitsOf_l4 s1 s2 = some r) (hc : ∀ (w0 : Int32) (w1 : Int32), r = .inl (w0, w1) → AW G l yX10_bitsOf cX10_bitsOf 3 (some .int) d kc ks 4 [none, some (.int w0), some (.int w1)] [] n S I J R Q) (he : ∀ (w0 : Int32) (w1 : Int32), r = .inr (w0, w1) → AW G l yX10_bitsOf cX10_bitsOf 3 (some .int) d kc ks 20 [none, some (.int w0), some (.int w1)] [] n S I J R Q) :
    AW G l yX10_bitsOf cX10_bitsOf 3 (some .int) d kc ks 4 [none, some (.int s1), some (.int s2)] [] n S I J R Q := by
  unfold f_X10_bitsOf_l4 at hf
  refine AW_iload_n2 dX10_bitsOf_4 ?_
  refine AW_if_eq 20 dX10_bitsOf_5 (by decide) (fun h1 => ?_) (fun h1 => ?_)
  · replace hf := rk_it hf h1
    refine AW_sb (rk_sbn (rk_sbs (rk_sbs rk_sb0))) ?_
    exact he _ _ (Option.some.inj hf).symm
  · replace hf := rk_if hf h1
    refine AW_iinc_1 (v := 1) dX10_bitsOf_8 (by decide) (by decide) rfl ?_
    refine AW_iload_n2 dX10_bitsOf_11 ?_
    refine AW_iload_n2 dX10_bitsOf_12 ?_
    refine AW_iconst (v := 1) dX10_bitsOf_13 (by decide) ?_
    refine AW_isub dX10_bitsOf_14 ?_
    refine AW_iand dX10_bitsOf_15 ?_
    refine AW_istore_n2 dX10_bitsOf_16 (by decide) rfl ?_
    refine AW_goto 4 dX10_bitsOf_17 (by decide) ?_
    refine AW_sb (rk_sbn (rk_sbs (rk_sbs rk_sb0))) ?_
    exact hc _ _ (Option.some.inj hf).symm
theorem L_X10_bitsOf_w4 {G : rk_G} {l : Launch} {d kc ks : Nat} {n : Nat} {S : rk_Sh} {I : rk_I} {J : rk_J} {R : rk_R} {Q : rk_Q}  {r : Int32 × Int32} (he : ∀ (w0 : Int32) (w1 : Int32), r = (w0, w1) → AW G l yX10_bitsOf cX10_bitsOf 3 (some .int) d kc ks 20 [none, some (.int w0), some (.int w1)] [] n S I J R Q) :
    ∀ (m9 : Nat) (s1 : Int32) (s2 : Int32) , rk_loop (fun a9 => f_X10_bitsOf_l4 a9.1 a9.2) m9 (s1, s2) = some r → AW G l yX10_bitsOf cX10_bitsOf 3 (some .int) d kc ks 4 [none, some (.int s1), some (.int s2)] [] n S I J R Q := by
  intro m9
  induction m9 with
  | zero => intro s1 s2 hf; cases hf
  | succ m9 ih =>
    intro s1 s2 hf 
    obtain ⟨r9, hf, hr⟩ := rk_loop_s hf
    exact b_X10_bitsOf_l4  hf (fun _ _ h9 => by subst h9; exact ih _ _ hr) (fun _ _ h9 => by subst h9; exact he _ _ hr.symm)
noncomputable def f_X10_bitsOf (a0 : Int32) : Option (Int32) :=
rk_b2 (rk_while (fun a9 => f_X10_bitsOf_l4 a9.1 a9.2) (0, a0)) fun x1 x2 =>
some x1
theorem b_X10_bitsOf {G : rk_G} {l : Launch} {d kc ks : Nat} {n : Nat} {S : rk_Sh} {I : rk_I} {J : rk_J} {R : rk_R} {Q : rk_Q} {a0 : Int32} {r : Int32} (hf : f_X10_bitsOf a0 = some r) (hq : ∀ (v9 : Int32), r = v9 → Q (some (.int v9)) n S I J R) :
    AW G l yX10_bitsOf cX10_bitsOf 3 (some .int) d kc ks 0 [some (.int a0), none, none] [] n S I J R Q := by
  unfold f_X10_bitsOf at hf
  refine AW_iconst (v := 0) dX10_bitsOf_0 (by decide) ?_
  refine AW_istore_n1 dX10_bitsOf_1 (by decide) rfl ?_
  refine AW_iload_n0 dX10_bitsOf_2 ?_
  refine AW_istore_n2 dX10_bitsOf_3 (by decide) rfl ?_
  refine AW_sb (rk_sbn (rk_sbs (rk_sbs rk_sb0))) ?_
  replace hf := rk_bd2 hf
  obtain ⟨x1, x2, e1, hf⟩ := hf
  obtain ⟨m1, e1⟩ := rk_while_sp e1
  refine L_X10_bitsOf_w4  ?_ m1 _ _ e1
  intro x1 x2 h9
  cases h9
  refine AW_iload_n1 dX10_bitsOf_20 ?_
  exact AW_iret dX10_bitsOf_21 rfl (hq _ (Option.some.inj hf).symm)
theorem w_X10_bitsOf {G : rk_G} {l : Launch} {d : Nat} {n : Nat} {S : rk_Sh} {I : rk_I} {J : rk_J} {R : rk_R} {a0 : Int32} {v8 : Int32} (hf : f_X10_bitsOf a0 = some v8) :
    CW G l yX10_bitsOf cX10_bitsOf 3 (some .int) d 0 0 [.int a0] n S I J R (rk_qi v8 n S I J R True) :=
  CW.of (by decide +kernel) (Nat.le_of_ble_eq_true rfl) (rk_sbs (rk_sbe (rk_sbe rk_sb0))) (b_X10_bitsOf hf (fun v9 h9 => by cases h9; exact ⟨rfl, rfl, rfl, rfl, rfl, rfl, trivial⟩))
noncomputable def f_X10_found_l15 (I : rk_I) (u1 : Int32) (s2 : Int32) (s3 : Int32) : Option ((Int32 × Int32) ⊕ (Int32 × Int32)) :=
if (I 31 20) ≤ s3 then (
some (.inr (s2, s3))) else (
if 12 ≤ s3 then (
some (.inr (s2, s3))) else (
(rk_rd I 39 24 s3).bind fun x1 =>
if x1 = u1 then (
some (.inl ((s2 ||| (1 <<< (s3 &&& 31))), (s3 + 1)))) else (
some (.inl ((s2 ||| 0), (s3 + 1))))))
theorem b_X10_found_l15 {G : rk_G} {l : Launch} {d kc ks : Nat} {n : Nat} {S : rk_Sh} {I : rk_I} {J : rk_J} {R : rk_R} {Q : rk_Q} {u1 : Int32} {s2 : Int32} {s3 : Int32} {r : (Int32 × Int32) ⊕ (Int32 × Int32)} (hd : 2 ≤ d) (hM : rk_LM S R) (hf : f_X10_found_l15 I u1 s2 s3 = some r) (hc : ∀ (w0 : Int32) (w1 : Int32), r = .inl (w0, w1) → AW G l yX10_found cX10_found 5 (some .int) d kc ks 15 [some (.ref 31), some (.int u1), some (.int w0), some (.int w1), none] [] n S I J R Q) (he : ∀ (w0 : Int32) (w1 : Int32), r = .inr (w0, w1) → AW G l yX10_found cX10_found 5 (some .int) d kc ks 55 [some (.ref 31), some (.int u1), some (.int w0), some (.int w1), none] [] n S I J R Q) :
    AW G l yX10_found cX10_found 5 (some .int) d kc ks 15 [some (.ref 31), some (.int u1), some (.int s2), some (.int s3), none] [] n S I J R Q := by
  unfold f_X10_found_l15 at hf
  refine AW_iload_n3 dX10_found_15 ?_
  refine AW_aload_n0 dX10_found_16 ?_
  refine AW_getI dX10_found_17 kf_X10_118 rfl (hM.1 31 (by decide) (by decide)) (by decide) ?_
  refine AW_icmp_ge 55 dX10_found_20 (by decide) (fun h1 => ?_) (fun h1 => ?_)
  · replace hf := rk_it hf h1
    refine AW_sb (rk_sbs (rk_sbs (rk_sbs (rk_sbs (rk_sbn rk_sb0))))) ?_
    exact he _ _ (Option.some.inj hf).symm
  · replace hf := rk_if hf h1
    refine AW_iload_n3 dX10_found_23 ?_
    refine AW_bipush (v := 12) dX10_found_24 (by decide) ?_
    refine AW_icmp_ge 55 dX10_found_26 (by decide) (fun h2 => ?_) (fun h2 => ?_)
    · replace hf := rk_it hf h2
      refine AW_sb (rk_sbs (rk_sbs (rk_sbs (rk_sbs (rk_sbn rk_sb0))))) ?_
      exact he _ _ (Option.some.inj hf).symm
    · replace hf := rk_if hf h2
      refine AW_iload_n2 dX10_found_29 ?_
      refine AW_aload_n0 dX10_found_30 ?_
      refine AW_getR dX10_found_31 kf_X10_35 rfl (hM.1 31 (by decide) (by decide)) (by decide) (hM.2 31 12 39 rfl) ?_
      refine AW_iload_n3 dX10_found_34 ?_
      replace hf := rk_bd hf
      obtain ⟨x1, e1, hf⟩ := hf
      refine AW_rd dX10_found_35 (hM.1 39 (by decide) (by decide)) e1 ?_
      refine AW_iload_n1 dX10_found_36 ?_
      refine AW_icmp_ne 46 dX10_found_37 (by decide) (fun h3 => ?_) (fun h3 => ?_)
      · replace hf := rk_if hf h3
        refine AW_iconst (v := 0) dX10_found_46 (by decide) ?_
        refine AW_ior dX10_found_47 ?_
        refine AW_istore_n2 dX10_found_48 (by decide) rfl ?_
        refine AW_iinc_3 (v := 1) dX10_found_49 (by decide) (by decide) rfl ?_
        refine AW_goto 15 dX10_found_52 (by decide) ?_
        refine AW_sb (rk_sbs (rk_sbs (rk_sbs (rk_sbs (rk_sbn rk_sb0))))) ?_
        exact hc _ _ (Option.some.inj hf).symm
      · replace hf := rk_it hf h3
        refine AW_iconst (v := 1) dX10_found_40 (by decide) ?_
        refine AW_iload_n3 dX10_found_41 ?_
        refine AW_ishl dX10_found_42 ?_
        refine AW_goto 47 dX10_found_43 (by decide) ?_
        refine AW_ior dX10_found_47 ?_
        refine AW_istore_n2 dX10_found_48 (by decide) rfl ?_
        refine AW_iinc_3 (v := 1) dX10_found_49 (by decide) (by decide) rfl ?_
        refine AW_goto 15 dX10_found_52 (by decide) ?_
        refine AW_sb (rk_sbs (rk_sbs (rk_sbs (rk_sbs (rk_sbn rk_sb0))))) ?_
        exact hc _ _ (Option.some.inj hf).symm
theorem L_X10_found_w15 {G : rk_G} {l : Launch} {d kc ks : Nat} {n : Nat} {S : rk_Sh} {I : rk_I} {J : rk_J} {R : rk_R} {Q : rk_Q} {u1 : Int32} {r : Int32 × Int32} (hd : 2 ≤ d) (hM : rk_LM S R) (he : ∀ (w0 : Int32) (w1 : Int32), r = (w0, w1) → AW G l yX10_found cX10_found 5 (some .int) d kc ks 55 [some (.ref 31), some (.int u1), some (.int w0), some (.int w1), none] [] n S I J R Q) :
    ∀ (m9 : Nat) (s2 : Int32) (s3 : Int32) , rk_loop (fun a9 => f_X10_found_l15 I u1 a9.1 a9.2) m9 (s2, s3) = some r → AW G l yX10_found cX10_found 5 (some .int) d kc ks 15 [some (.ref 31), some (.int u1), some (.int s2), some (.int s3), none] [] n S I J R Q := by
  intro m9
  induction m9 with
  | zero => intro s2 s3 hf; cases hf
  | succ m9 ih =>
    intro s2 s3 hf 
    obtain ⟨r9, hf, hr⟩ := rk_loop_s hf
    exact b_X10_found_l15 hd hM hf (fun _ _ h9 => by subst h9; exact ih _ _ hr) (fun _ _ h9 => by subst h9; exact he _ _ hr.symm)
noncomputable def f_X10_found_l60 (I : rk_I) (u2 : Int32) (s3 : Int32) (s4 : Int32) : Option ((Int32 × Int32) ⊕ (Int32 × Int32)) :=
if u2 < s4 then (
some (.inr (s3, s4))) else (
if (s4 &&& (u2 ^^^ (-1))) = 0 then (
if s3 = (-1) then (
(f_X10_isRing I s4).bind fun x1 =>
if x1 = 0 then (
some (.inl (s3, (s4 + 1)))) else (
some (.inl (s4, (s4 + 1))))) else (
(f_X10_bitsOf s4).bind fun x2 =>
(f_X10_bitsOf s3).bind fun x3 =>
if x3 ≤ x2 then (
some (.inl (s3, (s4 + 1)))) else (
(f_X10_isRing I s4).bind fun x4 =>
if x4 = 0 then (
some (.inl (s3, (s4 + 1)))) else (
some (.inl (s4, (s4 + 1))))))) else (
some (.inl (s3, (s4 + 1)))))
theorem b_X10_found_l60 {G : rk_G} {l : Launch} {d kc ks : Nat} {n : Nat} {S : rk_Sh} {I : rk_I} {J : rk_J} {R : rk_R} {Q : rk_Q} {u2 : Int32} {s3 : Int32} {s4 : Int32} {r : (Int32 × Int32) ⊕ (Int32 × Int32)} (hd : 2 ≤ d) (hM : rk_LM S R) (hf : f_X10_found_l60 I u2 s3 s4 = some r) (hc : ∀ (w0 : Int32) (w1 : Int32), r = .inl (w0, w1) → AW G l yX10_found cX10_found 5 (some .int) d kc ks 60 [some (.ref 31), none, some (.int u2), some (.int w0), some (.int w1)] [] n S I J R Q) (he : ∀ (w0 : Int32) (w1 : Int32), r = .inr (w0, w1) → AW G l yX10_found cX10_found 5 (some .int) d kc ks 110 [some (.ref 31), none, some (.int u2), some (.int w0), some (.int w1)] [] n S I J R Q) :
    AW G l yX10_found cX10_found 5 (some .int) d kc ks 60 [some (.ref 31), none, some (.int u2), some (.int s3), some (.int s4)] [] n S I J R Q := by
  unfold f_X10_found_l60 at hf
  refine AW_iload_4 dX10_found_60 ?_
  refine AW_iload_n2 dX10_found_62 ?_
  refine AW_icmp_gt 110 dX10_found_63 (by decide) (fun h1 => ?_) (fun h1 => ?_)
  · replace hf := rk_it hf h1
    refine AW_sb (rk_sbs (rk_sbn (rk_sbs (rk_sbs (rk_sbs rk_sb0))))) ?_
    exact he _ _ (Option.some.inj hf).symm
  · replace hf := rk_if hf h1
    refine AW_iload_4 dX10_found_66 ?_
    refine AW_iload_n2 dX10_found_68 ?_
    refine AW_iconst (v := (-1)) dX10_found_69 (by decide) ?_
    refine AW_ixor dX10_found_70 ?_
    refine AW_iand dX10_found_71 ?_
    refine AW_if_ne 104 dX10_found_72 (by decide) (fun h2 => ?_) (fun h2 => ?_)
    · replace hf := rk_if hf h2
      refine AW_iinc_4 (v := 1) dX10_found_104 (by decide) (by decide) rfl ?_
      refine AW_goto 60 dX10_found_107 (by decide) ?_
      refine AW_sb (rk_sbs (rk_sbn (rk_sbs (rk_sbs (rk_sbs rk_sb0))))) ?_
      exact hc _ _ (Option.some.inj hf).symm
    · replace hf := rk_it hf h2
      refine AW_iload_n3 dX10_found_75 ?_
      refine AW_iconst (v := (-1)) dX10_found_76 (by decide) ?_
      refine AW_icmp_eq 92 dX10_found_77 (by decide) (fun h3 => ?_) (fun h3 => ?_)
      · replace hf := rk_it hf h3
        refine AW_aload_n0 dX10_found_92 ?_
        refine AW_iload_4 dX10_found_93 ?_
        replace hf := rk_bd hf
        obtain ⟨x1, e1, hf⟩ := hf
        refine AW_iV1iz (w_X10_isRing (d := 1) (Nat.le_refl _) hM e1) dX10_found_95 kl_X10_326 (hM.1 31 (by decide) (by decide)) rfl (Nat.le_trans (by decide) hd) (by decide) (Nat.le_of_ble_eq_true rfl) (fun _ => ?_)
        refine AW_if_eq 104 dX10_found_98 (by decide) (fun h4 => ?_) (fun h4 => ?_)
        · replace hf := rk_it hf h4
          refine AW_iinc_4 (v := 1) dX10_found_104 (by decide) (by decide) rfl ?_
          refine AW_goto 60 dX10_found_107 (by decide) ?_
          refine AW_sb (rk_sbs (rk_sbn (rk_sbs (rk_sbs (rk_sbs rk_sb0))))) ?_
          exact hc _ _ (Option.some.inj hf).symm
        · replace hf := rk_if hf h4
          refine AW_iload_4 dX10_found_101 ?_
          refine AW_istore_n3 dX10_found_103 (by decide) rfl ?_
          refine AW_iinc_4 (v := 1) dX10_found_104 (by decide) (by decide) rfl ?_
          refine AW_goto 60 dX10_found_107 (by decide) ?_
          refine AW_sb (rk_sbs (rk_sbn (rk_sbs (rk_sbs (rk_sbs rk_sb0))))) ?_
          exact hc _ _ (Option.some.inj hf).symm
      · replace hf := rk_if hf h3
        refine AW_iload_4 dX10_found_80 ?_
        replace hf := rk_bd hf
        obtain ⟨x2, e2, hf⟩ := hf
        refine AW_iS1iz (w_X10_bitsOf (d := 0) e2) dX10_found_82 kl_X10_333 (Nat.le_trans (by decide) hd) (by decide) (Nat.le_of_ble_eq_true rfl) (fun _ => ?_)
        refine AW_iload_n3 dX10_found_85 ?_
        replace hf := rk_bd hf
        obtain ⟨x3, e3, hf⟩ := hf
        refine AW_iS1iz (w_X10_bitsOf (d := 0) e3) dX10_found_86 kl_X10_333 (Nat.le_trans (by decide) hd) (by decide) (Nat.le_of_ble_eq_true rfl) (fun _ => ?_)
        refine AW_icmp_ge 104 dX10_found_89 (by decide) (fun h5 => ?_) (fun h5 => ?_)
        · replace hf := rk_it hf h5
          refine AW_iinc_4 (v := 1) dX10_found_104 (by decide) (by decide) rfl ?_
          refine AW_goto 60 dX10_found_107 (by decide) ?_
          refine AW_sb (rk_sbs (rk_sbn (rk_sbs (rk_sbs (rk_sbs rk_sb0))))) ?_
          exact hc _ _ (Option.some.inj hf).symm
        · replace hf := rk_if hf h5
          refine AW_aload_n0 dX10_found_92 ?_
          refine AW_iload_4 dX10_found_93 ?_
          replace hf := rk_bd hf
          obtain ⟨x4, e4, hf⟩ := hf
          refine AW_iV1iz (w_X10_isRing (d := 1) (Nat.le_refl _) hM e4) dX10_found_95 kl_X10_326 (hM.1 31 (by decide) (by decide)) rfl (Nat.le_trans (by decide) hd) (by decide) (Nat.le_of_ble_eq_true rfl) (fun _ => ?_)
          refine AW_if_eq 104 dX10_found_98 (by decide) (fun h6 => ?_) (fun h6 => ?_)
          · replace hf := rk_it hf h6
            refine AW_iinc_4 (v := 1) dX10_found_104 (by decide) (by decide) rfl ?_
            refine AW_goto 60 dX10_found_107 (by decide) ?_
            refine AW_sb (rk_sbs (rk_sbn (rk_sbs (rk_sbs (rk_sbs rk_sb0))))) ?_
            exact hc _ _ (Option.some.inj hf).symm
          · replace hf := rk_if hf h6
            refine AW_iload_4 dX10_found_101 ?_
            refine AW_istore_n3 dX10_found_103 (by decide) rfl ?_
            refine AW_iinc_4 (v := 1) dX10_found_104 (by decide) (by decide) rfl ?_
            refine AW_goto 60 dX10_found_107 (by decide) ?_
            refine AW_sb (rk_sbs (rk_sbn (rk_sbs (rk_sbs (rk_sbs rk_sb0))))) ?_
            exact hc _ _ (Option.some.inj hf).symm
theorem L_X10_found_w60 {G : rk_G} {l : Launch} {d kc ks : Nat} {n : Nat} {S : rk_Sh} {I : rk_I} {J : rk_J} {R : rk_R} {Q : rk_Q} {u2 : Int32} {r : Int32 × Int32} (hd : 2 ≤ d) (hM : rk_LM S R) (he : ∀ (w0 : Int32) (w1 : Int32), r = (w0, w1) → AW G l yX10_found cX10_found 5 (some .int) d kc ks 110 [some (.ref 31), none, some (.int u2), some (.int w0), some (.int w1)] [] n S I J R Q) :
    ∀ (m9 : Nat) (s3 : Int32) (s4 : Int32) , rk_loop (fun a9 => f_X10_found_l60 I u2 a9.1 a9.2) m9 (s3, s4) = some r → AW G l yX10_found cX10_found 5 (some .int) d kc ks 60 [some (.ref 31), none, some (.int u2), some (.int s3), some (.int s4)] [] n S I J R Q := by
  intro m9
  induction m9 with
  | zero => intro s3 s4 hf; cases hf
  | succ m9 ih =>
    intro s3 s4 hf 
    obtain ⟨r9, hf, hr⟩ := rk_loop_s hf
    exact b_X10_found_l60 hd hM hf (fun _ _ h9 => by subst h9; exact ih _ _ hr) (fun _ _ h9 => by subst h9; exact he _ _ hr.symm)
noncomputable def f_X10_found_j55 (I : rk_I) (j2 : Int32) : Option (Int32) :=
rk_b2 (rk_while (fun a9 => f_X10_found_l60 I j2 a9.1 a9.2) ((-1), 1)) fun x1 x2 =>
some x1
theorem b_X10_found_j55 {G : rk_G} {l : Launch} {d kc ks : Nat} {n : Nat} {S : rk_Sh} {I : rk_I} {J : rk_J} {R : rk_R} {Q : rk_Q} {j2 : Int32} {r : Int32} (hd : 2 ≤ d) (hM : rk_LM S R) (hf : f_X10_found_j55 I j2 = some r) (hq : ∀ (v9 : Int32), r = v9 → Q (some (.int v9)) n S I J R) :
    AW G l yX10_found cX10_found 5 (some .int) d kc ks 55 [some (.ref 31), none, some (.int j2), none, none] [] n S I J R Q := by
  unfold f_X10_found_j55 at hf
  refine AW_iconst (v := (-1)) dX10_found_55 (by decide) ?_
  refine AW_istore_n3 dX10_found_56 (by decide) rfl ?_
  refine AW_iconst (v := 1) dX10_found_57 (by decide) ?_
  refine AW_istore_4 dX10_found_58 (by decide) rfl ?_
  refine AW_sb (rk_sbs (rk_sbn (rk_sbs (rk_sbs (rk_sbs rk_sb0))))) ?_
  replace hf := rk_bd2 hf
  obtain ⟨x1, x2, e1, hf⟩ := hf
  obtain ⟨m1, e1⟩ := rk_while_sp e1
  refine L_X10_found_w60 (Nat.le_trans (by decide) hd) hM ?_ m1 _ _ e1
  intro x1 x2 h9
  cases h9
  refine AW_iload_n3 dX10_found_110 ?_
  exact AW_iret dX10_found_111 rfl (hq _ (Option.some.inj hf).symm)
noncomputable def f_X10_found (I : rk_I) (a1 : Int32) : Option (Int32) :=
(f_X10_isCargo I a1).bind fun x1 =>
if x1 = 0 then (
some (-2)) else (
rk_b2 (rk_while (fun a9 => f_X10_found_l15 I a1 a9.1 a9.2) (0, 0)) fun x2 x3 =>
f_X10_found_j55 I x2)
theorem b_X10_found {G : rk_G} {l : Launch} {d kc ks : Nat} {n : Nat} {S : rk_Sh} {I : rk_I} {J : rk_J} {R : rk_R} {Q : rk_Q} {a1 : Int32} {r : Int32} (hd : 2 ≤ d) (hM : rk_LM S R) (hf : f_X10_found I a1 = some r) (hq : ∀ (v9 : Int32), r = v9 → Q (some (.int v9)) n S I J R) :
    AW G l yX10_found cX10_found 5 (some .int) d kc ks 0 [some (.ref 31), some (.int a1), none, none, none] [] n S I J R Q := by
  unfold f_X10_found at hf
  refine AW_aload_n0 dX10_found_0 ?_
  refine AW_iload_n1 dX10_found_1 ?_
  replace hf := rk_bd hf
  obtain ⟨x1, e1, hf⟩ := hf
  refine AW_iV1iz (w_X10_isCargo (d := 1) (Nat.le_refl _) hM e1) dX10_found_2 kl_X10_129 (hM.1 31 (by decide) (by decide)) rfl (Nat.le_trans (by decide) hd) (by decide) (Nat.le_of_ble_eq_true rfl) (fun _ => ?_)
  refine AW_if_ne 11 dX10_found_5 (by decide) (fun h1 => ?_) (fun h1 => ?_)
  · replace hf := rk_if hf h1
    refine AW_iconst (v := 0) dX10_found_11 (by decide) ?_
    refine AW_istore_n2 dX10_found_12 (by decide) rfl ?_
    refine AW_iconst (v := 0) dX10_found_13 (by decide) ?_
    refine AW_istore_n3 dX10_found_14 (by decide) rfl ?_
    refine AW_sb (rk_sbs (rk_sbs (rk_sbs (rk_sbs (rk_sbn rk_sb0))))) ?_
    replace hf := rk_bd2 hf
    obtain ⟨x2, x3, e2, hf⟩ := hf
    obtain ⟨m1, e2⟩ := rk_while_sp e2
    refine L_X10_found_w15 (Nat.le_trans (by decide) hd) hM ?_ m1 _ _ e2
    intro x2 x3 h9
    cases h9
    refine AW_sb (rk_sbs (rk_sbn (rk_sbs (rk_sbn (rk_sbn rk_sb0))))) ?_
    exact b_X10_found_j55 (Nat.le_trans (by decide) hd) hM hf hq
  · replace hf := rk_it hf h1
    refine AW_bipush (v := (-2)) dX10_found_8 (by decide) ?_
    exact AW_iret dX10_found_10 rfl (hq _ (Option.some.inj hf).symm)
theorem w_X10_found {G : rk_G} {l : Launch} {d : Nat} {n : Nat} {S : rk_Sh} {I : rk_I} {J : rk_J} {R : rk_R} {a1 : Int32} {v8 : Int32} (hd : 2 ≤ d) (hM : rk_LM S R) (hf : f_X10_found I a1 = some v8) :
    CW G l yX10_found cX10_found 5 (some .int) d 0 0 [.ref 31, .int a1] n S I J R (rk_qi v8 n S I J R True) :=
  CW.of (by decide +kernel) (Nat.le_of_ble_eq_true rfl) (rk_sbs (rk_sbs (rk_sbe (rk_sbe (rk_sbe rk_sb0))))) (b_X10_found hd hM hf (fun v9 h9 => by cases h9; exact ⟨rfl, rfl, rfl, rfl, rfl, rfl, trivial⟩))
noncomputable def f_X9_loses_l45 (S : rk_Sh) (I : rk_I) (R : rk_R) (u2 : Int32) (u3 : Int32) (u4 : Int32) (s5 : Int64) (s7 : Int32) : Option ((Int64 × Int32 × rk_I) ⊕ (Int64 × Int32 × rk_I)) :=
if (I 0 3) ≤ s7 then (
some (.inr (s5, s7, I))) else (
(rk_rdR R 2 24 s7).bind fun q1 =>
(rk_dr S 5 11 q1).bind fun o1 =>
if (I o1 3) = u3 then (
if (I o1 2) = u4 then (
(f_X5_thingHour S I R o1).bind fun x1 =>
if u2 < x1 then (
some (.inl (s5, (s7 + 1), I))) else (
rk_b2 (f_X9_owedFor S I R o1 u2) fun x2 I1 =>
some (.inl ((s5 + (rk_lmax 0 x2)), (s7 + 1), I1)))) else (
some (.inl (s5, (s7 + 1), I)))) else (
some (.inl (s5, (s7 + 1), I))))
theorem b_X9_loses_l45 {G : rk_G} {l : Launch} {d kc ks : Nat} {n : Nat} {S : rk_Sh} {I : rk_I} {J : rk_J} {R : rk_R} {Q : rk_Q} {u2 : Int32} {u3 : Int32} {u4 : Int32} {s5 : Int64} {s7 : Int32} {r : (Int64 × Int32 × rk_I) ⊕ (Int64 × Int32 × rk_I)} (hd : 6 ≤ d) (hL : rk_LC S R) (hf : f_X9_loses_l45 S I R u2 u3 u4 s5 s7 = some r) (hc : ∀ (w0 : Int64) (w1 : Int32) (I9 : rk_I), r = .inl (w0, w1, I9) → AW G l yX9_loses cX9_loses 9 (some .long) d kc ks 45 [some (.ref 0), none, some (.int u2), some (.int u3), some (.int u4), some (.long w0), none, some (.int w1), none] [] n S I9 J R Q) (he : ∀ (w0 : Int64) (w1 : Int32) (I9 : rk_I), r = .inr (w0, w1, I9) → AW G l yX9_loses cX9_loses 9 (some .long) d kc ks 113 [some (.ref 0), none, some (.int u2), some (.int u3), some (.int u4), some (.long w0), none, some (.int w1), none] [] n S I9 J R Q) :
    AW G l yX9_loses cX9_loses 9 (some .long) d kc ks 45 [some (.ref 0), none, some (.int u2), some (.int u3), some (.int u4), some (.long s5), none, some (.int s7), none] [] n S I J R Q := by
  unfold f_X9_loses_l45 at hf
  refine AW_iload_7 dX9_loses_45 ?_
  refine AW_aload_n0 dX9_loses_47 ?_
  refine AW_getI dX9_loses_48 kf_X9_125 rfl (hL.1 0 (by decide)) (by decide) ?_
  refine AW_icmp_ge 113 dX9_loses_51 (by decide) (fun h1 => ?_) (fun h1 => ?_)
  · replace hf := rk_it hf h1
    refine AW_sb (rk_sbs (rk_sbn (rk_sbs (rk_sbs (rk_sbs (rk_sbs (rk_sbn (rk_sbs (rk_sbn rk_sb0))))))))) ?_
    exact he _ _ _ (Option.some.inj hf).symm
  · replace hf := rk_if hf h1
    refine AW_aload_n0 dX9_loses_54 ?_
    refine AW_getR dX9_loses_55 kf_X9_17 rfl (hL.1 0 (by decide)) (by decide) (hL.2 0 2 2 rfl) ?_
    refine AW_iload_7 dX9_loses_58 ?_
    replace hf := rk_bd hf
    obtain ⟨q1, e1, hf⟩ := hf
    refine AW_rdR dX9_loses_60 (hL.1 2 (by decide)) (by decide) e1 ?_
    refine AW_astoreO_8 dX9_loses_61 (by decide) rfl ?_
    refine AW_aloadO_8 dX9_loses_63 ?_
    replace hf := rk_bd hf
    obtain ⟨o1, e2, hf⟩ := hf
    obtain ⟨e2, hS1⟩ := rk_dr_sp e2
    subst e2
    refine AW_getI dX9_loses_65 kf_X9_205 rfl hS1 (by decide) ?_
    refine AW_iload_n3 dX9_loses_68 ?_
    refine AW_icmp_ne 107 dX9_loses_69 (by decide) (fun h2 => ?_) (fun h2 => ?_)
    · replace hf := rk_if hf h2
      refine AW_iinc_7 (v := 1) dX9_loses_107 (by decide) (by decide) rfl ?_
      refine AW_goto 45 dX9_loses_110 (by decide) ?_
      refine AW_sb (rk_sbs (rk_sbn (rk_sbs (rk_sbs (rk_sbs (rk_sbs (rk_sbn (rk_sbs (rk_sbn rk_sb0))))))))) ?_
      exact hc _ _ _ (Option.some.inj hf).symm
    · replace hf := rk_it hf h2
      refine AW_aload_8 dX9_loses_72 ?_
      refine AW_getI dX9_loses_74 kf_X9_202 rfl hS1 (by decide) ?_
      refine AW_iload_4 dX9_loses_77 ?_
      refine AW_icmp_ne 107 dX9_loses_79 (by decide) (fun h3 => ?_) (fun h3 => ?_)
      · replace hf := rk_if hf h3
        refine AW_iinc_7 (v := 1) dX9_loses_107 (by decide) (by decide) rfl ?_
        refine AW_goto 45 dX9_loses_110 (by decide) ?_
        refine AW_sb (rk_sbs (rk_sbn (rk_sbs (rk_sbs (rk_sbs (rk_sbs (rk_sbn (rk_sbs (rk_sbn rk_sb0))))))))) ?_
        exact hc _ _ _ (Option.some.inj hf).symm
      · replace hf := rk_it hf h3
        refine AW_aload_8 dX9_loses_82 ?_
        replace hf := rk_bd hf
        obtain ⟨x1, e3, hf⟩ := hf
        refine AW_iV0iz (w_X5_thingHour (d := 2) (Nat.le_refl _) hS1 e3) dX9_loses_84 kl_X9_227 hS1 rfl (Nat.le_trans (by decide) hd) (by decide) (Nat.le_of_ble_eq_true rfl) (fun _ => ?_)
        refine AW_iload_n2 dX9_loses_87 ?_
        refine AW_icmp_gt 107 dX9_loses_88 (by decide) (fun h4 => ?_) (fun h4 => ?_)
        · replace hf := rk_it hf h4
          refine AW_iinc_7 (v := 1) dX9_loses_107 (by decide) (by decide) rfl ?_
          refine AW_goto 45 dX9_loses_110 (by decide) ?_
          refine AW_sb (rk_sbs (rk_sbn (rk_sbs (rk_sbs (rk_sbs (rk_sbs (rk_sbn (rk_sbs (rk_sbn rk_sb0))))))))) ?_
          exact hc _ _ _ (Option.some.inj hf).symm
        · replace hf := rk_if hf h4
          refine AW_lload_5 dX9_loses_91 ?_
          refine AW_lconst (v := 0) dX9_loses_93 (by decide) ?_
          refine AW_aload_n0 dX9_loses_94 ?_
          refine AW_aload_8 dX9_loses_95 ?_
          refine AW_iload_n2 dX9_loses_97 ?_
          replace hf := rk_bd2 hf
          obtain ⟨x2, I1, e4, hf⟩ := hf
          refine AW_iV2lz (w_X9_owedFor (d := 5) (Nat.le_refl _) hS1 hL e4) dX9_loses_98 kl_X9_198 (hL.1 0 (by decide)) rfl (Nat.le_trans (by decide) hd) (by decide) (Nat.le_of_ble_eq_true rfl) (fun _ => ?_)
          refine AW_mlmax dX9_loses_101 km_X9_230 (Nat.le_trans (by decide) hd) (Nat.le_of_ble_eq_true rfl) ?_
          refine AW_ladd dX9_loses_104 ?_
          refine AW_lstore_5 dX9_loses_105 (by decide) rfl ?_
          refine AW_iinc_7 (v := 1) dX9_loses_107 (by decide) (by decide) rfl ?_
          refine AW_goto 45 dX9_loses_110 (by decide) ?_
          refine AW_sb (rk_sbs (rk_sbn (rk_sbs (rk_sbs (rk_sbs (rk_sbs (rk_sbn (rk_sbs (rk_sbn rk_sb0))))))))) ?_
          exact hc _ _ _ (Option.some.inj hf).symm
theorem L_X9_loses_w45 {G : rk_G} {l : Launch} {d kc ks : Nat} {n : Nat} {S : rk_Sh} {J : rk_J} {R : rk_R} {Q : rk_Q} {u2 : Int32} {u3 : Int32} {u4 : Int32} {r : Int64 × Int32 × rk_I} (hd : 6 ≤ d) (hL : rk_LC S R) (he : ∀ (w0 : Int64) (w1 : Int32) (I9 : rk_I), r = (w0, w1, I9) → AW G l yX9_loses cX9_loses 9 (some .long) d kc ks 113 [some (.ref 0), none, some (.int u2), some (.int u3), some (.int u4), some (.long w0), none, some (.int w1), none] [] n S I9 J R Q) :
    ∀ (m9 : Nat) (s5 : Int64) (s7 : Int32) (I : rk_I), rk_loop (fun a9 => f_X9_loses_l45 S a9.2.2 R u2 u3 u4 a9.1 a9.2.1) m9 (s5, s7, I) = some r → AW G l yX9_loses cX9_loses 9 (some .long) d kc ks 45 [some (.ref 0), none, some (.int u2), some (.int u3), some (.int u4), some (.long s5), none, some (.int s7), none] [] n S I J R Q := by
  intro m9
  induction m9 with
  | zero => intro s5 s7 I hf; cases hf
  | succ m9 ih =>
    intro s5 s7 I hf 
    obtain ⟨r9, hf, hr⟩ := rk_loop_s hf
    exact b_X9_loses_l45 hd hL hf (fun _ _ _ h9 => by subst h9; exact ih _ _ _ hr) (fun _ _ _ h9 => by subst h9; exact he _ _ _ hr.symm)
noncomputable def f_X9_loses (S : rk_Sh) (I : rk_I) (R : rk_R) (a1 : Int32) (a2 : Int32) : Option (Int64 × rk_I) :=
if a1 < 0 then (
some ((-4611686018427387904), I)) else (
(f_X9_isHand (a1 / 10)).bind fun x1 =>
if x1 = 0 then (
some ((-4611686018427387904), I)) else (
if (a1 / 10) = (rk_md a1 10) then (
some ((-4611686018427387904), I)) else (
(f_X9_isHour a2).bind fun x2 =>
if x2 = 0 then (
some ((-4611686018427387904), I)) else (
rk_b3 (rk_while (fun a9 => f_X9_loses_l45 S a9.2.2 R a2 (a1 / 10) (rk_md a1 10) a9.1 a9.2.1) (0, 0, I)) fun x3 x4 I1 =>
some (x3, I1)))))
theorem b_X9_loses {G : rk_G} {l : Launch} {d kc ks : Nat} {n : Nat} {S : rk_Sh} {I : rk_I} {J : rk_J} {R : rk_R} {Q : rk_Q} {a1 : Int32} {a2 : Int32} {r : Int64 × rk_I} (hd : 6 ≤ d) (hL : rk_LC S R) (hf : f_X9_loses S I R a1 a2 = some r) (hq : ∀ (v9 : Int64) (I9 : rk_I), r = (v9, I9) → Q (some (.long v9)) n S I9 J R) :
    AW G l yX9_loses cX9_loses 9 (some .long) d kc ks 0 [some (.ref 0), some (.int a1), some (.int a2), none, none, none, none, none, none] [] n S I J R Q := by
  unfold f_X9_loses at hf
  refine AW_iload_n1 dX9_loses_0 ?_
  refine AW_bipush (v := 10) dX9_loses_1 (by decide) ?_
  refine AW_idiv dX9_loses_3 (by decide) ?_
  refine AW_istore_n3 dX9_loses_4 (by decide) rfl ?_
  refine AW_iload_n1 dX9_loses_5 ?_
  refine AW_bipush (v := 10) dX9_loses_6 (by decide) ?_
  refine AW_md dX9_loses_8 (by decide) ?_
  refine AW_istore_4 dX9_loses_9 (by decide) rfl ?_
  refine AW_iload_n1 dX9_loses_11 ?_
  refine AW_if_lt 35 dX9_loses_12 (by decide) (fun h1 => ?_) (fun h1 => ?_)
  · replace hf := rk_it hf h1
    refine AW_ldc2 dX9_loses_35 kv_X9_156 ?_
    exact AW_lret dX9_loses_38 rfl (hq _ _ (Option.some.inj hf).symm)
  · replace hf := rk_if hf h1
    refine AW_iload_n3 dX9_loses_15 ?_
    replace hf := rk_bd hf
    obtain ⟨x1, e1, hf⟩ := hf
    refine AW_iS1iz (w_X9_isHand (d := 0) e1) dX9_loses_16 kl_X9_100 (Nat.le_trans (by decide) hd) (by decide) (Nat.le_of_ble_eq_true rfl) (fun _ => ?_)
    refine AW_if_eq 35 dX9_loses_19 (by decide) (fun h2 => ?_) (fun h2 => ?_)
    · replace hf := rk_it hf h2
      refine AW_ldc2 dX9_loses_35 kv_X9_156 ?_
      exact AW_lret dX9_loses_38 rfl (hq _ _ (Option.some.inj hf).symm)
    · replace hf := rk_if hf h2
      refine AW_iload_n3 dX9_loses_22 ?_
      refine AW_iload_4 dX9_loses_23 ?_
      refine AW_icmp_eq 35 dX9_loses_25 (by decide) (fun h3 => ?_) (fun h3 => ?_)
      · replace hf := rk_it hf h3
        refine AW_ldc2 dX9_loses_35 kv_X9_156 ?_
        exact AW_lret dX9_loses_38 rfl (hq _ _ (Option.some.inj hf).symm)
      · replace hf := rk_if hf h3
        refine AW_iload_n2 dX9_loses_28 ?_
        replace hf := rk_bd hf
        obtain ⟨x2, e2, hf⟩ := hf
        refine AW_iS1iz (w_X9_isHour (d := 0) e2) dX9_loses_29 kl_X9_122 (Nat.le_trans (by decide) hd) (by decide) (Nat.le_of_ble_eq_true rfl) (fun _ => ?_)
        refine AW_if_ne 39 dX9_loses_32 (by decide) (fun h4 => ?_) (fun h4 => ?_)
        · replace hf := rk_if hf h4
          refine AW_lconst (v := 0) dX9_loses_39 (by decide) ?_
          refine AW_lstore_5 dX9_loses_40 (by decide) rfl ?_
          refine AW_iconst (v := 0) dX9_loses_42 (by decide) ?_
          refine AW_istore_7 dX9_loses_43 (by decide) rfl ?_
          refine AW_sb (rk_sbs (rk_sbn (rk_sbs (rk_sbs (rk_sbs (rk_sbs (rk_sbn (rk_sbs (rk_sbn rk_sb0))))))))) ?_
          replace hf := rk_bd3 hf
          obtain ⟨x3, x4, I1, e3, hf⟩ := hf
          obtain ⟨m1, e3⟩ := rk_while_sp e3
          refine L_X9_loses_w45 (Nat.le_trans (by decide) hd) hL ?_ m1 _ _ _ e3
          intro x3 x4 I1 h9
          cases h9
          refine AW_lload_5 dX9_loses_113 ?_
          exact AW_lret dX9_loses_115 rfl (hq _ _ (Option.some.inj hf).symm)
        · replace hf := rk_it hf h4
          refine AW_ldc2 dX9_loses_35 kv_X9_156 ?_
          exact AW_lret dX9_loses_38 rfl (hq _ _ (Option.some.inj hf).symm)
theorem w_X9_loses {G : rk_G} {l : Launch} {d : Nat} {n : Nat} {S : rk_Sh} {I : rk_I} {J : rk_J} {R : rk_R} {a1 : Int32} {a2 : Int32} {v8 : Int64} {I8 : rk_I} (hd : 6 ≤ d) (hL : rk_LC S R) (hf : f_X9_loses S I R a1 a2 = some (v8, I8)) :
    CW G l yX9_loses cX9_loses 9 (some .long) d 0 0 [.ref 0, .int a1, .int a2] n S I J R (rk_ql v8 n S I8 J R True) :=
  CW.of (by decide +kernel) (Nat.le_of_ble_eq_true rfl) (rk_sbs (rk_sbs (rk_sbs (rk_sbe (rk_sbe (rk_sbe (rk_sbe (rk_sbe (rk_sbe rk_sb0))))))))) (b_X9_loses hd hL hf (fun v9 I9 h9 => by cases h9; exact ⟨rfl, rfl, rfl, rfl, rfl, rfl, trivial⟩))
noncomputable def f_X10_loses_l39 (I : rk_I) (J : rk_J) (u1 : Int32) (u2 : Int32) (s3 : Int64) (s5 : Int32) : Option ((Int64 × Int32 × rk_I × rk_J) ⊕ (Int64 × Int32 × rk_I × rk_J)) :=
if (I 31 20) ≤ s5 then (
some (.inr (s3, s5, I, J))) else (
(rk_rd I 41 24 s5).bind fun x1 =>
if x1 = (u1 / 10) then (
(rk_rd I 40 24 s5).bind fun x2 =>
if x2 = (rk_md u1 10) then (
(f_X10_passes I s5 0).bind fun x3 =>
if x3 ≤ u2 then (
rk_b3 (f_X10_owesOf I J s5 u2) fun x4 I1 J1 =>
if (lg_cmp x4 0) ≤ 0 then (
some (.inl ((s3 + 0), (s5 + 1), I1, J1))) else (
some (.inl ((s3 + x4), (s5 + 1), I1, J1)))) else (
some (.inl (s3, (s5 + 1), I, J)))) else (
some (.inl (s3, (s5 + 1), I, J)))) else (
some (.inl (s3, (s5 + 1), I, J))))
theorem b_X10_loses_l39 {G : rk_G} {l : Launch} {d kc ks : Nat} {n : Nat} {S : rk_Sh} {I : rk_I} {J : rk_J} {R : rk_R} {Q : rk_Q} {u1 : Int32} {u2 : Int32} {s3 : Int64} {s5 : Int32} {r : (Int64 × Int32 × rk_I × rk_J) ⊕ (Int64 × Int32 × rk_I × rk_J)} (hd : 68 ≤ d) (hM : rk_LM S R) (hf : f_X10_loses_l39 I J u1 u2 s3 s5 = some r) (hc : ∀ (w0 : Int64) (w1 : Int32) (I9 : rk_I) (J9 : rk_J), r = .inl (w0, w1, I9, J9) → AW G l yX10_loses cX10_loses 8 (some .long) d kc ks 39 [some (.ref 31), some (.int u1), some (.int u2), some (.long w0), none, some (.int w1), none, none] [] n S I9 J9 R Q) (he : ∀ (w0 : Int64) (w1 : Int32) (I9 : rk_I) (J9 : rk_J), r = .inr (w0, w1, I9, J9) → AW G l yX10_loses cX10_loses 8 (some .long) d kc ks 121 [some (.ref 31), some (.int u1), some (.int u2), some (.long w0), none, some (.int w1), none, none] [] n S I9 J9 R Q) :
    AW G l yX10_loses cX10_loses 8 (some .long) d kc ks 39 [some (.ref 31), some (.int u1), some (.int u2), some (.long s3), none, some (.int s5), none, none] [] n S I J R Q := by
  unfold f_X10_loses_l39 at hf
  refine AW_iload_5 dX10_loses_39 ?_
  refine AW_aload_n0 dX10_loses_41 ?_
  refine AW_getI dX10_loses_42 kf_X10_118 rfl (hM.1 31 (by decide) (by decide)) (by decide) ?_
  refine AW_icmp_ge 121 dX10_loses_45 (by decide) (fun h1 => ?_) (fun h1 => ?_)
  · replace hf := rk_it hf h1
    refine AW_sb (rk_sbs (rk_sbs (rk_sbs (rk_sbs (rk_sbn (rk_sbs (rk_sbn (rk_sbn rk_sb0)))))))) ?_
    exact he _ _ _ _ (Option.some.inj hf).symm
  · replace hf := rk_if hf h1
    refine AW_aload_n0 dX10_loses_48 ?_
    refine AW_getR dX10_loses_49 kf_X10_41 rfl (hM.1 31 (by decide) (by decide)) (by decide) (hM.2 31 14 41 rfl) ?_
    refine AW_iload_5 dX10_loses_52 ?_
    replace hf := rk_bd hf
    obtain ⟨x1, e1, hf⟩ := hf
    refine AW_rd dX10_loses_54 (hM.1 41 (by decide) (by decide)) e1 ?_
    refine AW_iload_n1 dX10_loses_55 ?_
    refine AW_bipush (v := 10) dX10_loses_56 (by decide) ?_
    refine AW_idiv dX10_loses_58 (by decide) ?_
    refine AW_icmp_ne 115 dX10_loses_59 (by decide) (fun h2 => ?_) (fun h2 => ?_)
    · replace hf := rk_if hf h2
      refine AW_iinc_5 (v := 1) dX10_loses_115 (by decide) (by decide) rfl ?_
      refine AW_goto 39 dX10_loses_118 (by decide) ?_
      refine AW_sb (rk_sbs (rk_sbs (rk_sbs (rk_sbs (rk_sbn (rk_sbs (rk_sbn (rk_sbn rk_sb0)))))))) ?_
      exact hc _ _ _ _ (Option.some.inj hf).symm
    · replace hf := rk_it hf h2
      refine AW_aload_n0 dX10_loses_62 ?_
      refine AW_getR dX10_loses_63 kf_X10_38 rfl (hM.1 31 (by decide) (by decide)) (by decide) (hM.2 31 13 40 rfl) ?_
      refine AW_iload_5 dX10_loses_66 ?_
      replace hf := rk_bd hf
      obtain ⟨x2, e2, hf⟩ := hf
      refine AW_rd dX10_loses_68 (hM.1 40 (by decide) (by decide)) e2 ?_
      refine AW_iload_n1 dX10_loses_69 ?_
      refine AW_bipush (v := 10) dX10_loses_70 (by decide) ?_
      refine AW_md dX10_loses_72 (by decide) ?_
      refine AW_icmp_ne 115 dX10_loses_73 (by decide) (fun h3 => ?_) (fun h3 => ?_)
      · replace hf := rk_if hf h3
        refine AW_iinc_5 (v := 1) dX10_loses_115 (by decide) (by decide) rfl ?_
        refine AW_goto 39 dX10_loses_118 (by decide) ?_
        refine AW_sb (rk_sbs (rk_sbs (rk_sbs (rk_sbs (rk_sbn (rk_sbs (rk_sbn (rk_sbn rk_sb0)))))))) ?_
        exact hc _ _ _ _ (Option.some.inj hf).symm
      · replace hf := rk_it hf h3
        refine AW_aload_n0 dX10_loses_76 ?_
        refine AW_iload_5 dX10_loses_77 ?_
        refine AW_iconst (v := 0) dX10_loses_79 (by decide) ?_
        replace hf := rk_bd hf
        obtain ⟨x3, e3, hf⟩ := hf
        refine AW_iV2iz (w_X10_passes (d := 3) (Nat.le_refl _) hM e3) dX10_loses_80 kl_X10_157 (hM.1 31 (by decide) (by decide)) rfl (Nat.le_trans (by decide) hd) (by decide) (Nat.le_of_ble_eq_true rfl) (fun _ => ?_)
        refine AW_iload_n2 dX10_loses_83 ?_
        refine AW_icmp_le 90 dX10_loses_84 (by decide) (fun h4 => ?_) (fun h4 => ?_)
        · replace hf := rk_it hf h4
          refine AW_aload_n0 dX10_loses_90 ?_
          refine AW_iload_5 dX10_loses_91 ?_
          refine AW_iload_n2 dX10_loses_93 ?_
          replace hf := rk_bd3 hf
          obtain ⟨x4, I1, J1, e4, hf⟩ := hf
          refine AW_iV2lz (w_X10_owesOf (d := 67) (Nat.le_refl _) hM e4) dX10_loses_94 kl_X10_316 (hM.1 31 (by decide) (by decide)) rfl (Nat.le_trans (by decide) hd) (by decide) (Nat.le_of_ble_eq_true rfl) (fun _ => ?_)
          refine AW_lstore_6 dX10_loses_97 (by decide) rfl ?_
          refine AW_lload_n3 dX10_loses_99 ?_
          refine AW_lload_6 dX10_loses_100 ?_
          refine AW_lconst (v := 0) dX10_loses_102 (by decide) ?_
          refine AW_lcmp dX10_loses_103 ?_
          refine AW_if_le 112 dX10_loses_104 (by decide) (fun h5 => ?_) (fun h5 => ?_)
          · replace hf := rk_it hf h5
            refine AW_lconst (v := 0) dX10_loses_112 (by decide) ?_
            refine AW_ladd dX10_loses_113 ?_
            refine AW_lstore_n3 dX10_loses_114 (by decide) rfl ?_
            refine AW_iinc_5 (v := 1) dX10_loses_115 (by decide) (by decide) rfl ?_
            refine AW_goto 39 dX10_loses_118 (by decide) ?_
            refine AW_sb (rk_sbs (rk_sbs (rk_sbs (rk_sbs (rk_sbn (rk_sbs (rk_sbn (rk_sbn rk_sb0)))))))) ?_
            exact hc _ _ _ _ (Option.some.inj hf).symm
          · replace hf := rk_if hf h5
            refine AW_lload_6 dX10_loses_107 ?_
            refine AW_goto 113 dX10_loses_109 (by decide) ?_
            refine AW_ladd dX10_loses_113 ?_
            refine AW_lstore_n3 dX10_loses_114 (by decide) rfl ?_
            refine AW_iinc_5 (v := 1) dX10_loses_115 (by decide) (by decide) rfl ?_
            refine AW_goto 39 dX10_loses_118 (by decide) ?_
            refine AW_sb (rk_sbs (rk_sbs (rk_sbs (rk_sbs (rk_sbn (rk_sbs (rk_sbn (rk_sbn rk_sb0)))))))) ?_
            exact hc _ _ _ _ (Option.some.inj hf).symm
        · replace hf := rk_if hf h4
          refine AW_goto 115 dX10_loses_87 (by decide) ?_
          refine AW_iinc_5 (v := 1) dX10_loses_115 (by decide) (by decide) rfl ?_
          refine AW_goto 39 dX10_loses_118 (by decide) ?_
          refine AW_sb (rk_sbs (rk_sbs (rk_sbs (rk_sbs (rk_sbn (rk_sbs (rk_sbn (rk_sbn rk_sb0)))))))) ?_
          exact hc _ _ _ _ (Option.some.inj hf).symm
theorem L_X10_loses_w39 {G : rk_G} {l : Launch} {d kc ks : Nat} {n : Nat} {S : rk_Sh} {R : rk_R} {Q : rk_Q} {u1 : Int32} {u2 : Int32} {r : Int64 × Int32 × rk_I × rk_J} (hd : 68 ≤ d) (hM : rk_LM S R) (he : ∀ (w0 : Int64) (w1 : Int32) (I9 : rk_I) (J9 : rk_J), r = (w0, w1, I9, J9) → AW G l yX10_loses cX10_loses 8 (some .long) d kc ks 121 [some (.ref 31), some (.int u1), some (.int u2), some (.long w0), none, some (.int w1), none, none] [] n S I9 J9 R Q) :
    ∀ (m9 : Nat) (s3 : Int64) (s5 : Int32) (I : rk_I) (J : rk_J), rk_loop (fun a9 => f_X10_loses_l39 a9.2.2.1 a9.2.2.2 u1 u2 a9.1 a9.2.1) m9 (s3, s5, I, J) = some r → AW G l yX10_loses cX10_loses 8 (some .long) d kc ks 39 [some (.ref 31), some (.int u1), some (.int u2), some (.long s3), none, some (.int s5), none, none] [] n S I J R Q := by
  intro m9
  induction m9 with
  | zero => intro s3 s5 I J hf; cases hf
  | succ m9 ih =>
    intro s3 s5 I J hf 
    obtain ⟨r9, hf, hr⟩ := rk_loop_s hf
    exact b_X10_loses_l39 hd hM hf (fun _ _ _ _ h9 => by subst h9; exact ih _ _ _ _ hr) (fun _ _ _ _ h9 => by subst h9; exact he _ _ _ _ hr.symm)
noncomputable def f_X10_loses (I : rk_I) (J : rk_J) (a1 : Int32) (a2 : Int32) : Option (Int64 × rk_I × rk_J) :=
(f_X10_in a1.toInt64 0 99).bind fun x1 =>
if x1 = 0 then (
some ((-4611686018427387904), I, J)) else (
if (a1 / 10) = (rk_md a1 10) then (
some ((-4611686018427387904), I, J)) else (
(f_X10_isHour a2).bind fun x2 =>
if x2 = 0 then (
some ((-4611686018427387904), I, J)) else (
rk_b4 (rk_while (fun a9 => f_X10_loses_l39 a9.2.2.1 a9.2.2.2 a1 a2 a9.1 a9.2.1) (0, 0, I, J)) fun x3 x4 I1 J1 =>
some (x3, I1, J1))))
theorem b_X10_loses {G : rk_G} {l : Launch} {d kc ks : Nat} {n : Nat} {S : rk_Sh} {I : rk_I} {J : rk_J} {R : rk_R} {Q : rk_Q} {a1 : Int32} {a2 : Int32} {r : Int64 × rk_I × rk_J} (hd : 68 ≤ d) (hM : rk_LM S R) (hf : f_X10_loses I J a1 a2 = some r) (hq : ∀ (v9 : Int64) (I9 : rk_I) (J9 : rk_J), r = (v9, I9, J9) → Q (some (.long v9)) n S I9 J9 R) :
    AW G l yX10_loses cX10_loses 8 (some .long) d kc ks 0 [some (.ref 31), some (.int a1), some (.int a2), none, none, none, none, none] [] n S I J R Q := by
  unfold f_X10_loses at hf
  refine AW_iload_n1 dX10_loses_0 ?_
  refine AW_i2l dX10_loses_1 ?_
  refine AW_lconst (v := 0) dX10_loses_2 (by decide) ?_
  refine AW_ldc2 dX10_loses_3 kv_X10_336 ?_
  replace hf := rk_bd hf
  obtain ⟨x1, e1, hf⟩ := hf
  refine AW_iS3iz (w_X10_in (d := 0) e1) dX10_loses_6 kl_X10_114 (Nat.le_trans (by decide) hd) (by decide) (Nat.le_of_ble_eq_true rfl) (fun _ => ?_)
  refine AW_if_eq 30 dX10_loses_9 (by decide) (fun h1 => ?_) (fun h1 => ?_)
  · replace hf := rk_it hf h1
    refine AW_ldc2 dX10_loses_30 kv_X10_168 ?_
    exact AW_lret dX10_loses_33 rfl (hq _ _ _ (Option.some.inj hf).symm)
  · replace hf := rk_if hf h1
    refine AW_iload_n1 dX10_loses_12 ?_
    refine AW_bipush (v := 10) dX10_loses_13 (by decide) ?_
    refine AW_idiv dX10_loses_15 (by decide) ?_
    refine AW_iload_n1 dX10_loses_16 ?_
    refine AW_bipush (v := 10) dX10_loses_17 (by decide) ?_
    refine AW_md dX10_loses_19 (by decide) ?_
    refine AW_icmp_eq 30 dX10_loses_20 (by decide) (fun h2 => ?_) (fun h2 => ?_)
    · replace hf := rk_it hf h2
      refine AW_ldc2 dX10_loses_30 kv_X10_168 ?_
      exact AW_lret dX10_loses_33 rfl (hq _ _ _ (Option.some.inj hf).symm)
    · replace hf := rk_if hf h2
      refine AW_iload_n2 dX10_loses_23 ?_
      replace hf := rk_bd hf
      obtain ⟨x2, e2, hf⟩ := hf
      refine AW_iS1iz (w_X10_isHour (d := 1) (Nat.le_refl _) e2) dX10_loses_24 kl_X10_138 (Nat.le_trans (by decide) hd) (by decide) (Nat.le_of_ble_eq_true rfl) (fun _ => ?_)
      refine AW_if_ne 34 dX10_loses_27 (by decide) (fun h3 => ?_) (fun h3 => ?_)
      · replace hf := rk_if hf h3
        refine AW_lconst (v := 0) dX10_loses_34 (by decide) ?_
        refine AW_lstore_n3 dX10_loses_35 (by decide) rfl ?_
        refine AW_iconst (v := 0) dX10_loses_36 (by decide) ?_
        refine AW_istore_5 dX10_loses_37 (by decide) rfl ?_
        refine AW_sb (rk_sbs (rk_sbs (rk_sbs (rk_sbs (rk_sbn (rk_sbs (rk_sbn (rk_sbn rk_sb0)))))))) ?_
        replace hf := rk_bd4 hf
        obtain ⟨x3, x4, I1, J1, e3, hf⟩ := hf
        obtain ⟨m1, e3⟩ := rk_while_sp e3
        refine L_X10_loses_w39 (Nat.le_trans (by decide) hd) hM ?_ m1 _ _ _ _ e3
        intro x3 x4 I1 J1 h9
        cases h9
        refine AW_lload_n3 dX10_loses_121 ?_
        exact AW_lret dX10_loses_122 rfl (hq _ _ _ (Option.some.inj hf).symm)
      · replace hf := rk_it hf h3
        refine AW_ldc2 dX10_loses_30 kv_X10_168 ?_
        exact AW_lret dX10_loses_33 rfl (hq _ _ _ (Option.some.inj hf).symm)
theorem w_X10_loses {G : rk_G} {l : Launch} {d : Nat} {n : Nat} {S : rk_Sh} {I : rk_I} {J : rk_J} {R : rk_R} {a1 : Int32} {a2 : Int32} {v8 : Int64} {I8 : rk_I} {J8 : rk_J} (hd : 68 ≤ d) (hM : rk_LM S R) (hf : f_X10_loses I J a1 a2 = some (v8, I8, J8)) :
    CW G l yX10_loses cX10_loses 8 (some .long) d 0 0 [.ref 31, .int a1, .int a2] n S I J R (rk_ql v8 n S I8 J8 R True) :=
  CW.of (by decide +kernel) (Nat.le_of_ble_eq_true rfl) (rk_sbs (rk_sbs (rk_sbs (rk_sbe (rk_sbe (rk_sbe (rk_sbe (rk_sbe rk_sb0)))))))) (b_X10_loses hd hM hf (fun v9 I9 J9 h9 => by cases h9; exact ⟨rfl, rfl, rfl, rfl, rfl, rfl, trivial⟩))
noncomputable def f_X9_canBeStopped_j21 (S : rk_Sh) (I : rk_I) (R : rk_R) (j1 : Nat) (j2 : Int32) (t0 : Int32) : Option (Int32 × rk_I) :=
if t0 = 0 then (
(f_X5_thingHour S I R j1).bind fun x1 =>
if x1 ≤ j2 then (
some (0, I)) else (
rk_b2 (f_X9_ruled S I R 2 j1 j2) fun x2 I1 =>
if x2 = 0 then (
some (0, I1)) else (
some (1, I1)))) else (
some (0, I))
theorem b_X9_canBeStopped_j21 {G : rk_G} {l : Launch} {d kc ks : Nat} {n : Nat} {S : rk_Sh} {I : rk_I} {J : rk_J} {R : rk_R} {Q : rk_Q} {j1 : Nat} {j2 : Int32} {t0 : Int32} {r : Int32 × rk_I} (hd : 5 ≤ d) (hS_j1 : S j1 = (5, 11)) (hL : rk_LC S R) (hf : f_X9_canBeStopped_j21 S I R j1 j2 t0 = some r) (hq : ∀ (v9 : Int32) (I9 : rk_I), r = (v9, I9) → Q (some (.int v9)) n S I9 J R) :
    AW G l yX9_canBeStopped cX9_canBeStopped 4 (some .boolean) d kc ks 21 [some (.ref 0), some (.ref j1), some (.int j2), none] [.int t0] n S I J R Q := by
  unfold f_X9_canBeStopped_j21 at hf
  refine AW_istore_n3 dX9_canBeStopped_21 (by decide) rfl ?_
  refine AW_iload_n3 dX9_canBeStopped_22 ?_
  refine AW_if_ne 48 dX9_canBeStopped_23 (by decide) (fun h1 => ?_) (fun h1 => ?_)
  · replace hf := rk_if hf h1
    refine AW_iconst (v := 0) dX9_canBeStopped_48 (by decide) ?_
    exact AW_zret dX9_canBeStopped_49 rfl rfl (hq _ _ (Option.some.inj hf).symm)
  · replace hf := rk_it hf h1
    refine AW_aload_n1 dX9_canBeStopped_26 ?_
    replace hf := rk_bd hf
    obtain ⟨x1, e1, hf⟩ := hf
    refine AW_iV0iz (w_X5_thingHour (d := 2) (Nat.le_refl _) hS_j1 e1) dX9_canBeStopped_27 kl_X9_227 hS_j1 rfl (Nat.le_trans (by decide) hd) (by decide) (Nat.le_of_ble_eq_true rfl) (fun _ => ?_)
    refine AW_iload_n2 dX9_canBeStopped_30 ?_
    refine AW_icmp_le 48 dX9_canBeStopped_31 (by decide) (fun h2 => ?_) (fun h2 => ?_)
    · replace hf := rk_it hf h2
      refine AW_iconst (v := 0) dX9_canBeStopped_48 (by decide) ?_
      exact AW_zret dX9_canBeStopped_49 rfl rfl (hq _ _ (Option.some.inj hf).symm)
    · replace hf := rk_if hf h2
      refine AW_aload_n0 dX9_canBeStopped_34 ?_
      refine AW_iconst (v := 2) dX9_canBeStopped_35 (by decide) ?_
      refine AW_aload_n1 dX9_canBeStopped_36 ?_
      refine AW_iload_n2 dX9_canBeStopped_37 ?_
      replace hf := rk_bd2 hf
      obtain ⟨x2, I1, e2, hf⟩ := hf
      refine AW_iV3iz (w_X9_ruled (d := 4) (Nat.le_refl _) hS_j1 hL e2) dX9_canBeStopped_38 kl_X9_329 (hL.1 0 (by decide)) rfl (Nat.le_trans (by decide) hd) (by decide) (Nat.le_of_ble_eq_true rfl) (fun _ => ?_)
      refine AW_if_eq 48 dX9_canBeStopped_41 (by decide) (fun h3 => ?_) (fun h3 => ?_)
      · replace hf := rk_it hf h3
        refine AW_iconst (v := 0) dX9_canBeStopped_48 (by decide) ?_
        exact AW_zret dX9_canBeStopped_49 rfl rfl (hq _ _ (Option.some.inj hf).symm)
      · replace hf := rk_if hf h3
        refine AW_iconst (v := 1) dX9_canBeStopped_44 (by decide) ?_
        refine AW_goto 49 dX9_canBeStopped_45 (by decide) ?_
        exact AW_zret dX9_canBeStopped_49 rfl rfl (hq _ _ (Option.some.inj hf).symm)
noncomputable def f_X9_canBeStopped_j20 (S : rk_Sh) (I : rk_I) (R : rk_R) (j1 : Nat) (j2 : Int32) : Option (Int32 × rk_I) :=
f_X9_canBeStopped_j21 S I R j1 j2 0
theorem b_X9_canBeStopped_j20 {G : rk_G} {l : Launch} {d kc ks : Nat} {n : Nat} {S : rk_Sh} {I : rk_I} {J : rk_J} {R : rk_R} {Q : rk_Q} {j1 : Nat} {j2 : Int32} {r : Int32 × rk_I} (hd : 5 ≤ d) (hS_j1 : S j1 = (5, 11)) (hL : rk_LC S R) (hf : f_X9_canBeStopped_j20 S I R j1 j2 = some r) (hq : ∀ (v9 : Int32) (I9 : rk_I), r = (v9, I9) → Q (some (.int v9)) n S I9 J R) :
    AW G l yX9_canBeStopped cX9_canBeStopped 4 (some .boolean) d kc ks 20 [some (.ref 0), some (.ref j1), some (.int j2), none] [] n S I J R Q := by
  unfold f_X9_canBeStopped_j20 at hf
  refine AW_iconst (v := 0) dX9_canBeStopped_20 (by decide) ?_
  refine AW_sb (rk_sbs (rk_sbs (rk_sbs (rk_sbn rk_sb0)))) ?_
  exact b_X9_canBeStopped_j21 (Nat.le_trans (by decide) hd) hS_j1 hL hf hq
noncomputable def f_X9_canBeStopped (S : rk_Sh) (I : rk_I) (R : rk_R) (a1 : Nat) (a2 : Int32) : Option (Int32 × rk_I) :=
if (I a1 7) = (-1) then (
f_X9_canBeStopped_j20 S I R a1 a2) else (
if a2 < (I a1 7) then (
f_X9_canBeStopped_j20 S I R a1 a2) else (
f_X9_canBeStopped_j21 S I R a1 a2 1))
theorem b_X9_canBeStopped {G : rk_G} {l : Launch} {d kc ks : Nat} {n : Nat} {S : rk_Sh} {I : rk_I} {J : rk_J} {R : rk_R} {Q : rk_Q} {a1 : Nat} {a2 : Int32} {r : Int32 × rk_I} (hd : 5 ≤ d) (hS_a1 : S a1 = (5, 11)) (hL : rk_LC S R) (hf : f_X9_canBeStopped S I R a1 a2 = some r) (hq : ∀ (v9 : Int32) (I9 : rk_I), r = (v9, I9) → Q (some (.int v9)) n S I9 J R) :
    AW G l yX9_canBeStopped cX9_canBeStopped 4 (some .boolean) d kc ks 0 [some (.ref 0), some (.ref a1), some (.int a2), none] [] n S I J R Q := by
  unfold f_X9_canBeStopped at hf
  refine AW_aload_n1 dX9_canBeStopped_0 ?_
  refine AW_getI dX9_canBeStopped_1 kf_X9_135 rfl hS_a1 (by decide) ?_
  refine AW_iconst (v := (-1)) dX9_canBeStopped_4 (by decide) ?_
  refine AW_icmp_eq 20 dX9_canBeStopped_5 (by decide) (fun h1 => ?_) (fun h1 => ?_)
  · replace hf := rk_it hf h1
    refine AW_sb (rk_sbs (rk_sbs (rk_sbs (rk_sbn rk_sb0)))) ?_
    exact b_X9_canBeStopped_j20 (Nat.le_trans (by decide) hd) hS_a1 hL hf hq
  · replace hf := rk_if hf h1
    refine AW_aload_n1 dX9_canBeStopped_8 ?_
    refine AW_getI dX9_canBeStopped_9 kf_X9_135 rfl hS_a1 (by decide) ?_
    refine AW_iload_n2 dX9_canBeStopped_12 ?_
    refine AW_icmp_gt 20 dX9_canBeStopped_13 (by decide) (fun h2 => ?_) (fun h2 => ?_)
    · replace hf := rk_it hf h2
      refine AW_sb (rk_sbs (rk_sbs (rk_sbs (rk_sbn rk_sb0)))) ?_
      exact b_X9_canBeStopped_j20 (Nat.le_trans (by decide) hd) hS_a1 hL hf hq
    · replace hf := rk_if hf h2
      refine AW_iconst (v := 1) dX9_canBeStopped_16 (by decide) ?_
      refine AW_goto 21 dX9_canBeStopped_17 (by decide) ?_
      refine AW_sb (rk_sbs (rk_sbs (rk_sbs (rk_sbn rk_sb0)))) ?_
      exact b_X9_canBeStopped_j21 (Nat.le_trans (by decide) hd) hS_a1 hL hf hq
theorem w_X9_canBeStopped {G : rk_G} {l : Launch} {d : Nat} {n : Nat} {S : rk_Sh} {I : rk_I} {J : rk_J} {R : rk_R} {a1 : Nat} {a2 : Int32} {v8 : Int32} {I8 : rk_I} (hd : 5 ≤ d) (hS_a1 : S a1 = (5, 11)) (hL : rk_LC S R) (hf : f_X9_canBeStopped S I R a1 a2 = some (v8, I8)) :
    CW G l yX9_canBeStopped cX9_canBeStopped 4 (some .boolean) d 0 0 [.ref 0, .ref a1, .int a2] n S I J R (rk_qi v8 n S I8 J R True) :=
  CW.of (by decide +kernel) (Nat.le_of_ble_eq_true rfl) (rk_sbs (rk_sbs (rk_sbs (rk_sbe rk_sb0)))) (b_X9_canBeStopped hd hS_a1 hL hf (fun v9 I9 h9 => by cases h9; exact ⟨rfl, rfl, rfl, rfl, rfl, rfl, trivial⟩))
noncomputable def f_X9_stops_l22 (S : rk_Sh) (I : rk_I) (R : rk_R) (u1 : Int32) (u2 : Int32) (s3 : Int32) (s4 : Int32) : Option ((Int32 × Int32 × rk_I) ⊕ (Int32 × Int32 × rk_I)) :=
if (I 0 3) ≤ s4 then (
some (.inr (s3, s4, I))) else (
(rk_rdR R 2 24 s4).bind fun q1 =>
(rk_dr S 5 11 q1).bind fun o1 =>
if (I o1 3) = u1 then (
rk_b2 (f_X9_canBeStopped S I R o1 u2) fun x1 I1 =>
if x1 = 0 then (
some (.inl (s3, (s4 + 1), I1))) else (
some (.inl ((s3 ||| (1 <<< (s4 &&& 31))), (s4 + 1), I1)))) else (
some (.inl (s3, (s4 + 1), I))))
theorem b_X9_stops_l22 {G : rk_G} {l : Launch} {d kc ks : Nat} {n : Nat} {S : rk_Sh} {I : rk_I} {J : rk_J} {R : rk_R} {Q : rk_Q} {u1 : Int32} {u2 : Int32} {s3 : Int32} {s4 : Int32} {r : (Int32 × Int32 × rk_I) ⊕ (Int32 × Int32 × rk_I)} (hd : 6 ≤ d) (hL : rk_LC S R) (hf : f_X9_stops_l22 S I R u1 u2 s3 s4 = some r) (hc : ∀ (w0 : Int32) (w1 : Int32) (I9 : rk_I), r = .inl (w0, w1, I9) → AW G l yX9_stops cX9_stops 5 (some .int) d kc ks 22 [some (.ref 0), some (.int u1), some (.int u2), some (.int w0), some (.int w1)] [] n S I9 J R Q) (he : ∀ (w0 : Int32) (w1 : Int32) (I9 : rk_I), r = .inr (w0, w1, I9) → AW G l yX9_stops cX9_stops 5 (some .int) d kc ks 73 [some (.ref 0), some (.int u1), some (.int u2), some (.int w0), some (.int w1)] [] n S I9 J R Q) :
    AW G l yX9_stops cX9_stops 5 (some .int) d kc ks 22 [some (.ref 0), some (.int u1), some (.int u2), some (.int s3), some (.int s4)] [] n S I J R Q := by
  unfold f_X9_stops_l22 at hf
  refine AW_iload_4 dX9_stops_22 ?_
  refine AW_aload_n0 dX9_stops_24 ?_
  refine AW_getI dX9_stops_25 kf_X9_125 rfl (hL.1 0 (by decide)) (by decide) ?_
  refine AW_icmp_ge 73 dX9_stops_28 (by decide) (fun h1 => ?_) (fun h1 => ?_)
  · replace hf := rk_it hf h1
    refine AW_sb (rk_sbs (rk_sbs (rk_sbs (rk_sbs (rk_sbs rk_sb0))))) ?_
    exact he _ _ _ (Option.some.inj hf).symm
  · replace hf := rk_if hf h1
    refine AW_aload_n0 dX9_stops_31 ?_
    refine AW_getR dX9_stops_32 kf_X9_17 rfl (hL.1 0 (by decide)) (by decide) (hL.2 0 2 2 rfl) ?_
    refine AW_iload_4 dX9_stops_35 ?_
    replace hf := rk_bd hf
    obtain ⟨q1, e1, hf⟩ := hf
    refine AW_rdR dX9_stops_37 (hL.1 2 (by decide)) (by decide) e1 ?_
    replace hf := rk_bd hf
    obtain ⟨o1, e2, hf⟩ := hf
    obtain ⟨e2, hS1⟩ := rk_dr_sp e2
    subst e2
    refine AW_getI dX9_stops_38 kf_X9_205 rfl hS1 (by decide) ?_
    refine AW_iload_n1 dX9_stops_41 ?_
    refine AW_icmp_ne 67 dX9_stops_42 (by decide) (fun h2 => ?_) (fun h2 => ?_)
    · replace hf := rk_if hf h2
      refine AW_iinc_4 (v := 1) dX9_stops_67 (by decide) (by decide) rfl ?_
      refine AW_goto 22 dX9_stops_70 (by decide) ?_
      refine AW_sb (rk_sbs (rk_sbs (rk_sbs (rk_sbs (rk_sbs rk_sb0))))) ?_
      exact hc _ _ _ (Option.some.inj hf).symm
    · replace hf := rk_it hf h2
      refine AW_aload_n0 dX9_stops_45 ?_
      refine AW_aload_n0 dX9_stops_46 ?_
      refine AW_getR dX9_stops_47 kf_X9_17 rfl (hL.1 0 (by decide)) (by decide) (hL.2 0 2 2 rfl) ?_
      refine AW_iload_4 dX9_stops_50 ?_
      refine AW_rdR (q := (some o1)) dX9_stops_52 (hL.1 2 (by decide)) (by decide) e1 ?_
      refine AW_iload_n2 dX9_stops_53 ?_
      replace hf := rk_bd2 hf
      obtain ⟨x1, I1, e3, hf⟩ := hf
      refine AW_iV2iz (w_X9_canBeStopped (d := 5) (Nat.le_refl _) hS1 hL e3) dX9_stops_54 kl_X9_233 (hL.1 0 (by decide)) rfl (Nat.le_trans (by decide) hd) (by decide) (Nat.le_of_ble_eq_true rfl) (fun _ => ?_)
      refine AW_if_eq 67 dX9_stops_57 (by decide) (fun h3 => ?_) (fun h3 => ?_)
      · replace hf := rk_it hf h3
        refine AW_iinc_4 (v := 1) dX9_stops_67 (by decide) (by decide) rfl ?_
        refine AW_goto 22 dX9_stops_70 (by decide) ?_
        refine AW_sb (rk_sbs (rk_sbs (rk_sbs (rk_sbs (rk_sbs rk_sb0))))) ?_
        exact hc _ _ _ (Option.some.inj hf).symm
      · replace hf := rk_if hf h3
        refine AW_iload_n3 dX9_stops_60 ?_
        refine AW_iconst (v := 1) dX9_stops_61 (by decide) ?_
        refine AW_iload_4 dX9_stops_62 ?_
        refine AW_ishl dX9_stops_64 ?_
        refine AW_ior dX9_stops_65 ?_
        refine AW_istore_n3 dX9_stops_66 (by decide) rfl ?_
        refine AW_iinc_4 (v := 1) dX9_stops_67 (by decide) (by decide) rfl ?_
        refine AW_goto 22 dX9_stops_70 (by decide) ?_
        refine AW_sb (rk_sbs (rk_sbs (rk_sbs (rk_sbs (rk_sbs rk_sb0))))) ?_
        exact hc _ _ _ (Option.some.inj hf).symm
theorem L_X9_stops_w22 {G : rk_G} {l : Launch} {d kc ks : Nat} {n : Nat} {S : rk_Sh} {J : rk_J} {R : rk_R} {Q : rk_Q} {u1 : Int32} {u2 : Int32} {r : Int32 × Int32 × rk_I} (hd : 6 ≤ d) (hL : rk_LC S R) (he : ∀ (w0 : Int32) (w1 : Int32) (I9 : rk_I), r = (w0, w1, I9) → AW G l yX9_stops cX9_stops 5 (some .int) d kc ks 73 [some (.ref 0), some (.int u1), some (.int u2), some (.int w0), some (.int w1)] [] n S I9 J R Q) :
    ∀ (m9 : Nat) (s3 : Int32) (s4 : Int32) (I : rk_I), rk_loop (fun a9 => f_X9_stops_l22 S a9.2.2 R u1 u2 a9.1 a9.2.1) m9 (s3, s4, I) = some r → AW G l yX9_stops cX9_stops 5 (some .int) d kc ks 22 [some (.ref 0), some (.int u1), some (.int u2), some (.int s3), some (.int s4)] [] n S I J R Q := by
  intro m9
  induction m9 with
  | zero => intro s3 s4 I hf; cases hf
  | succ m9 ih =>
    intro s3 s4 I hf 
    obtain ⟨r9, hf, hr⟩ := rk_loop_s hf
    exact b_X9_stops_l22 hd hL hf (fun _ _ _ h9 => by subst h9; exact ih _ _ _ hr) (fun _ _ _ h9 => by subst h9; exact he _ _ _ hr.symm)
noncomputable def f_X9_stops (S : rk_Sh) (I : rk_I) (R : rk_R) (a1 : Int32) (a2 : Int32) : Option (Int32 × rk_I) :=
(f_X9_isHand a1).bind fun x1 =>
if x1 = 0 then (
some ((-2), I)) else (
(f_X9_isHour a2).bind fun x2 =>
if x2 = 0 then (
some ((-2), I)) else (
rk_b3 (rk_while (fun a9 => f_X9_stops_l22 S a9.2.2 R a1 a2 a9.1 a9.2.1) (0, 0, I)) fun x3 x4 I1 =>
some (x3, I1)))
theorem b_X9_stops {G : rk_G} {l : Launch} {d kc ks : Nat} {n : Nat} {S : rk_Sh} {I : rk_I} {J : rk_J} {R : rk_R} {Q : rk_Q} {a1 : Int32} {a2 : Int32} {r : Int32 × rk_I} (hd : 6 ≤ d) (hL : rk_LC S R) (hf : f_X9_stops S I R a1 a2 = some r) (hq : ∀ (v9 : Int32) (I9 : rk_I), r = (v9, I9) → Q (some (.int v9)) n S I9 J R) :
    AW G l yX9_stops cX9_stops 5 (some .int) d kc ks 0 [some (.ref 0), some (.int a1), some (.int a2), none, none] [] n S I J R Q := by
  unfold f_X9_stops at hf
  refine AW_iload_n1 dX9_stops_0 ?_
  replace hf := rk_bd hf
  obtain ⟨x1, e1, hf⟩ := hf
  refine AW_iS1iz (w_X9_isHand (d := 0) e1) dX9_stops_1 kl_X9_100 (Nat.le_trans (by decide) hd) (by decide) (Nat.le_of_ble_eq_true rfl) (fun _ => ?_)
  refine AW_if_eq 14 dX9_stops_4 (by decide) (fun h1 => ?_) (fun h1 => ?_)
  · replace hf := rk_it hf h1
    refine AW_bipush (v := (-2)) dX9_stops_14 (by decide) ?_
    exact AW_iret dX9_stops_16 rfl (hq _ _ (Option.some.inj hf).symm)
  · replace hf := rk_if hf h1
    refine AW_iload_n2 dX9_stops_7 ?_
    replace hf := rk_bd hf
    obtain ⟨x2, e2, hf⟩ := hf
    refine AW_iS1iz (w_X9_isHour (d := 0) e2) dX9_stops_8 kl_X9_122 (Nat.le_trans (by decide) hd) (by decide) (Nat.le_of_ble_eq_true rfl) (fun _ => ?_)
    refine AW_if_ne 17 dX9_stops_11 (by decide) (fun h2 => ?_) (fun h2 => ?_)
    · replace hf := rk_if hf h2
      refine AW_iconst (v := 0) dX9_stops_17 (by decide) ?_
      refine AW_istore_n3 dX9_stops_18 (by decide) rfl ?_
      refine AW_iconst (v := 0) dX9_stops_19 (by decide) ?_
      refine AW_istore_4 dX9_stops_20 (by decide) rfl ?_
      refine AW_sb (rk_sbs (rk_sbs (rk_sbs (rk_sbs (rk_sbs rk_sb0))))) ?_
      replace hf := rk_bd3 hf
      obtain ⟨x3, x4, I1, e3, hf⟩ := hf
      obtain ⟨m1, e3⟩ := rk_while_sp e3
      refine L_X9_stops_w22 (Nat.le_trans (by decide) hd) hL ?_ m1 _ _ _ e3
      intro x3 x4 I1 h9
      cases h9
      refine AW_iload_n3 dX9_stops_73 ?_
      exact AW_iret dX9_stops_74 rfl (hq _ _ (Option.some.inj hf).symm)
    · replace hf := rk_it hf h2
      refine AW_bipush (v := (-2)) dX9_stops_14 (by decide) ?_
      exact AW_iret dX9_stops_16 rfl (hq _ _ (Option.some.inj hf).symm)
theorem w_X9_stops {G : rk_G} {l : Launch} {d : Nat} {n : Nat} {S : rk_Sh} {I : rk_I} {J : rk_J} {R : rk_R} {a1 : Int32} {a2 : Int32} {v8 : Int32} {I8 : rk_I} (hd : 6 ≤ d) (hL : rk_LC S R) (hf : f_X9_stops S I R a1 a2 = some (v8, I8)) :
    CW G l yX9_stops cX9_stops 5 (some .int) d 0 0 [.ref 0, .int a1, .int a2] n S I J R (rk_qi v8 n S I8 J R True) :=
  CW.of (by decide +kernel) (Nat.le_of_ble_eq_true rfl) (rk_sbs (rk_sbs (rk_sbs (rk_sbe (rk_sbe rk_sb0))))) (b_X9_stops hd hL hf (fun v9 I9 h9 => by cases h9; exact ⟨rfl, rfl, rfl, rfl, rfl, rfl, trivial⟩))
noncomputable def f_X10_stops_j78 (I : rk_I) (J : rk_J) (u1 : Int32) (u2 : Int32) (j3 : Int32) (j4 : Int32) : Option ((Int32 × Int32 × rk_I × rk_J) ⊕ (Int32 × Int32 × rk_I × rk_J)) :=
rk_b3 (f_X10_read I J (I 31 4) j4 u2 2) fun x1 I1 J1 =>
if x1 = 0 then (
some (.inl ((j3 ||| 0), (j4 + 1), I1, J1))) else (
some (.inl ((j3 ||| (1 <<< (j4 &&& 31))), (j4 + 1), I1, J1)))
theorem b_X10_stops_j78 {G : rk_G} {l : Launch} {d kc ks : Nat} {n : Nat} {S : rk_Sh} {I : rk_I} {J : rk_J} {R : rk_R} {Q : rk_Q} {u1 : Int32} {u2 : Int32} {j3 : Int32} {j4 : Int32} {r : (Int32 × Int32 × rk_I × rk_J) ⊕ (Int32 × Int32 × rk_I × rk_J)} (hd : 67 ≤ d) (hM : rk_LM S R) (hf : f_X10_stops_j78 I J u1 u2 j3 j4 = some r) (hc : ∀ (w0 : Int32) (w1 : Int32) (I9 : rk_I) (J9 : rk_J), r = .inl (w0, w1, I9, J9) → AW G l yX10_stops cX10_stops 5 (some .int) d kc ks 22 [some (.ref 31), some (.int u1), some (.int u2), some (.int w0), some (.int w1)] [] n S I9 J9 R Q) (he : ∀ (w0 : Int32) (w1 : Int32) (I9 : rk_I) (J9 : rk_J), r = .inr (w0, w1, I9, J9) → AW G l yX10_stops cX10_stops 5 (some .int) d kc ks 110 [some (.ref 31), some (.int u1), some (.int u2), some (.int w0), some (.int w1)] [] n S I9 J9 R Q) :
    AW G l yX10_stops cX10_stops 5 (some .int) d kc ks 78 [some (.ref 31), some (.int u1), some (.int u2), some (.int j3), some (.int j4)] [] n S I J R Q := by
  unfold f_X10_stops_j78 at hf
  refine AW_iload_n3 dX10_stops_78 ?_
  refine AW_aload_n0 dX10_stops_79 ?_
  refine AW_aload_n0 dX10_stops_80 ?_
  refine AW_getI dX10_stops_81 kf_X10_309 rfl (hM.1 31 (by decide) (by decide)) (by decide) ?_
  refine AW_iload_4 dX10_stops_84 ?_
  refine AW_iload_n2 dX10_stops_86 ?_
  refine AW_iconst (v := 2) dX10_stops_87 (by decide) ?_
  replace hf := rk_bd3 hf
  obtain ⟨x1, I1, J1, e1, hf⟩ := hf
  refine AW_iV4iz (w_X10_read (d := 66) (Nat.le_refl _) hM e1) dX10_stops_88 kl_X10_305 (hM.1 31 (by decide) (by decide)) rfl (Nat.le_trans (by decide) hd) (by decide) (Nat.le_of_ble_eq_true rfl) (fun _ => ?_)
  refine AW_if_eq 101 dX10_stops_91 (by decide) (fun h1 => ?_) (fun h1 => ?_)
  · replace hf := rk_it hf h1
    refine AW_iconst (v := 0) dX10_stops_101 (by decide) ?_
    refine AW_ior dX10_stops_102 ?_
    refine AW_istore_n3 dX10_stops_103 (by decide) rfl ?_
    refine AW_iinc_4 (v := 1) dX10_stops_104 (by decide) (by decide) rfl ?_
    refine AW_goto 22 dX10_stops_107 (by decide) ?_
    refine AW_sb (rk_sbs (rk_sbs (rk_sbs (rk_sbs (rk_sbs rk_sb0))))) ?_
    exact hc _ _ _ _ (Option.some.inj hf).symm
  · replace hf := rk_if hf h1
    refine AW_iconst (v := 1) dX10_stops_94 (by decide) ?_
    refine AW_iload_4 dX10_stops_95 ?_
    refine AW_ishl dX10_stops_97 ?_
    refine AW_goto 102 dX10_stops_98 (by decide) ?_
    refine AW_ior dX10_stops_102 ?_
    refine AW_istore_n3 dX10_stops_103 (by decide) rfl ?_
    refine AW_iinc_4 (v := 1) dX10_stops_104 (by decide) (by decide) rfl ?_
    refine AW_goto 22 dX10_stops_107 (by decide) ?_
    refine AW_sb (rk_sbs (rk_sbs (rk_sbs (rk_sbs (rk_sbs rk_sb0))))) ?_
    exact hc _ _ _ _ (Option.some.inj hf).symm
noncomputable def f_X10_stops_l22 (I : rk_I) (J : rk_J) (u1 : Int32) (u2 : Int32) (s3 : Int32) (s4 : Int32) : Option ((Int32 × Int32 × rk_I × rk_J) ⊕ (Int32 × Int32 × rk_I × rk_J)) :=
if (I 31 20) ≤ s4 then (
some (.inr (s3, s4, I, J))) else (
(rk_rd I 41 24 s4).bind fun x1 =>
if x1 = u1 then (
(f_X10_passes I s4 0).bind fun x2 =>
if x2 ≤ u2 then (
some (.inl (s3, (s4 + 1), I, J))) else (
(rk_rd I 45 24 s4).bind fun x3 =>
if x3 = (-1) then (
f_X10_stops_j78 I J u1 u2 s3 s4) else (
(rk_rd I 45 24 s4).bind fun x4 =>
if u2 < x4 then (
f_X10_stops_j78 I J u1 u2 s3 s4) else (
some (.inl (s3, (s4 + 1), I, J)))))) else (
some (.inl (s3, (s4 + 1), I, J))))
theorem b_X10_stops_l22 {G : rk_G} {l : Launch} {d kc ks : Nat} {n : Nat} {S : rk_Sh} {I : rk_I} {J : rk_J} {R : rk_R} {Q : rk_Q} {u1 : Int32} {u2 : Int32} {s3 : Int32} {s4 : Int32} {r : (Int32 × Int32 × rk_I × rk_J) ⊕ (Int32 × Int32 × rk_I × rk_J)} (hd : 67 ≤ d) (hM : rk_LM S R) (hf : f_X10_stops_l22 I J u1 u2 s3 s4 = some r) (hc : ∀ (w0 : Int32) (w1 : Int32) (I9 : rk_I) (J9 : rk_J), r = .inl (w0, w1, I9, J9) → AW G l yX10_stops cX10_stops 5 (some .int) d kc ks 22 [some (.ref 31), some (.int u1), some (.int u2), some (.int w0), some (.int w1)] [] n S I9 J9 R Q) (he : ∀ (w0 : Int32) (w1 : Int32) (I9 : rk_I) (J9 : rk_J), r = .inr (w0, w1, I9, J9) → AW G l yX10_stops cX10_stops 5 (some .int) d kc ks 110 [some (.ref 31), some (.int u1), some (.int u2), some (.int w0), some (.int w1)] [] n S I9 J9 R Q) :
    AW G l yX10_stops cX10_stops 5 (some .int) d kc ks 22 [some (.ref 31), some (.int u1), some (.int u2), some (.int s3), some (.int s4)] [] n S I J R Q := by
  unfold f_X10_stops_l22 at hf
  refine AW_iload_4 dX10_stops_22 ?_
  refine AW_aload_n0 dX10_stops_24 ?_
  refine AW_getI dX10_stops_25 kf_X10_118 rfl (hM.1 31 (by decide) (by decide)) (by decide) ?_
  refine AW_icmp_ge 110 dX10_stops_28 (by decide) (fun h1 => ?_) (fun h1 => ?_)
  · replace hf := rk_it hf h1
    refine AW_sb (rk_sbs (rk_sbs (rk_sbs (rk_sbs (rk_sbs rk_sb0))))) ?_
    exact he _ _ _ _ (Option.some.inj hf).symm
  · replace hf := rk_if hf h1
    refine AW_aload_n0 dX10_stops_31 ?_
    refine AW_getR dX10_stops_32 kf_X10_41 rfl (hM.1 31 (by decide) (by decide)) (by decide) (hM.2 31 14 41 rfl) ?_
    refine AW_iload_4 dX10_stops_35 ?_
    replace hf := rk_bd hf
    obtain ⟨x1, e1, hf⟩ := hf
    refine AW_rd dX10_stops_37 (hM.1 41 (by decide) (by decide)) e1 ?_
    refine AW_iload_n1 dX10_stops_38 ?_
    refine AW_icmp_ne 104 dX10_stops_39 (by decide) (fun h2 => ?_) (fun h2 => ?_)
    · replace hf := rk_if hf h2
      refine AW_iinc_4 (v := 1) dX10_stops_104 (by decide) (by decide) rfl ?_
      refine AW_goto 22 dX10_stops_107 (by decide) ?_
      refine AW_sb (rk_sbs (rk_sbs (rk_sbs (rk_sbs (rk_sbs rk_sb0))))) ?_
      exact hc _ _ _ _ (Option.some.inj hf).symm
    · replace hf := rk_it hf h2
      refine AW_aload_n0 dX10_stops_42 ?_
      refine AW_iload_4 dX10_stops_43 ?_
      refine AW_iconst (v := 0) dX10_stops_45 (by decide) ?_
      replace hf := rk_bd hf
      obtain ⟨x2, e2, hf⟩ := hf
      refine AW_iV2iz (w_X10_passes (d := 3) (Nat.le_refl _) hM e2) dX10_stops_46 kl_X10_157 (hM.1 31 (by decide) (by decide)) rfl (Nat.le_trans (by decide) hd) (by decide) (Nat.le_of_ble_eq_true rfl) (fun _ => ?_)
      refine AW_iload_n2 dX10_stops_49 ?_
      refine AW_icmp_le 104 dX10_stops_50 (by decide) (fun h3 => ?_) (fun h3 => ?_)
      · replace hf := rk_it hf h3
        refine AW_iinc_4 (v := 1) dX10_stops_104 (by decide) (by decide) rfl ?_
        refine AW_goto 22 dX10_stops_107 (by decide) ?_
        refine AW_sb (rk_sbs (rk_sbs (rk_sbs (rk_sbs (rk_sbs rk_sb0))))) ?_
        exact hc _ _ _ _ (Option.some.inj hf).symm
      · replace hf := rk_if hf h3
        refine AW_aload_n0 dX10_stops_53 ?_
        refine AW_getR dX10_stops_54 kf_X10_53 rfl (hM.1 31 (by decide) (by decide)) (by decide) (hM.2 31 18 45 rfl) ?_
        refine AW_iload_4 dX10_stops_57 ?_
        replace hf := rk_bd hf
        obtain ⟨x3, e3, hf⟩ := hf
        refine AW_rd dX10_stops_59 (hM.1 45 (by decide) (by decide)) e3 ?_
        refine AW_iconst (v := (-1)) dX10_stops_60 (by decide) ?_
        refine AW_icmp_eq 78 dX10_stops_61 (by decide) (fun h4 => ?_) (fun h4 => ?_)
        · replace hf := rk_it hf h4
          refine AW_sb (rk_sbs (rk_sbs (rk_sbs (rk_sbs (rk_sbs rk_sb0))))) ?_
          exact b_X10_stops_j78 (Nat.le_trans (by decide) hd) hM hf hc he
        · replace hf := rk_if hf h4
          refine AW_aload_n0 dX10_stops_64 ?_
          refine AW_getR dX10_stops_65 kf_X10_53 rfl (hM.1 31 (by decide) (by decide)) (by decide) (hM.2 31 18 45 rfl) ?_
          refine AW_iload_4 dX10_stops_68 ?_
          replace hf := rk_bd hf
          obtain ⟨x4, e4, hf⟩ := hf
          refine AW_rd dX10_stops_70 (hM.1 45 (by decide) (by decide)) e4 ?_
          refine AW_iload_n2 dX10_stops_71 ?_
          refine AW_icmp_gt 78 dX10_stops_72 (by decide) (fun h5 => ?_) (fun h5 => ?_)
          · replace hf := rk_it hf h5
            refine AW_sb (rk_sbs (rk_sbs (rk_sbs (rk_sbs (rk_sbs rk_sb0))))) ?_
            exact b_X10_stops_j78 (Nat.le_trans (by decide) hd) hM hf hc he
          · replace hf := rk_if hf h5
            refine AW_goto 104 dX10_stops_75 (by decide) ?_
            refine AW_iinc_4 (v := 1) dX10_stops_104 (by decide) (by decide) rfl ?_
            refine AW_goto 22 dX10_stops_107 (by decide) ?_
            refine AW_sb (rk_sbs (rk_sbs (rk_sbs (rk_sbs (rk_sbs rk_sb0))))) ?_
            exact hc _ _ _ _ (Option.some.inj hf).symm
theorem L_X10_stops_w22 {G : rk_G} {l : Launch} {d kc ks : Nat} {n : Nat} {S : rk_Sh} {R : rk_R} {Q : rk_Q} {u1 : Int32} {u2 : Int32} {r : Int32 × Int32 × rk_I × rk_J} (hd : 67 ≤ d) (hM : rk_LM S R) (he : ∀ (w0 : Int32) (w1 : Int32) (I9 : rk_I) (J9 : rk_J), r = (w0, w1, I9, J9) → AW G l yX10_stops cX10_stops 5 (some .int) d kc ks 110 [some (.ref 31), some (.int u1), some (.int u2), some (.int w0), some (.int w1)] [] n S I9 J9 R Q) :
    ∀ (m9 : Nat) (s3 : Int32) (s4 : Int32) (I : rk_I) (J : rk_J), rk_loop (fun a9 => f_X10_stops_l22 a9.2.2.1 a9.2.2.2 u1 u2 a9.1 a9.2.1) m9 (s3, s4, I, J) = some r → AW G l yX10_stops cX10_stops 5 (some .int) d kc ks 22 [some (.ref 31), some (.int u1), some (.int u2), some (.int s3), some (.int s4)] [] n S I J R Q := by
  intro m9
  induction m9 with
  | zero => intro s3 s4 I J hf; cases hf
  | succ m9 ih =>
    intro s3 s4 I J hf 
    obtain ⟨r9, hf, hr⟩ := rk_loop_s hf
    exact b_X10_stops_l22 hd hM hf (fun _ _ _ _ h9 => by subst h9; exact ih _ _ _ _ hr) (fun _ _ _ _ h9 => by subst h9; exact he _ _ _ _ hr.symm)
noncomputable def f_X10_stops (I : rk_I) (J : rk_J) (a1 : Int32) (a2 : Int32) : Option (Int32 × rk_I × rk_J) :=
(f_X10_isHand a1).bind fun x1 =>
if x1 = 0 then (
some ((-2), I, J)) else (
(f_X10_isHour a2).bind fun x2 =>
if x2 = 0 then (
some ((-2), I, J)) else (
rk_b4 (rk_while (fun a9 => f_X10_stops_l22 a9.2.2.1 a9.2.2.2 a1 a2 a9.1 a9.2.1) (0, 0, I, J)) fun x3 x4 I1 J1 =>
some (x3, I1, J1)))
theorem b_X10_stops {G : rk_G} {l : Launch} {d kc ks : Nat} {n : Nat} {S : rk_Sh} {I : rk_I} {J : rk_J} {R : rk_R} {Q : rk_Q} {a1 : Int32} {a2 : Int32} {r : Int32 × rk_I × rk_J} (hd : 67 ≤ d) (hM : rk_LM S R) (hf : f_X10_stops I J a1 a2 = some r) (hq : ∀ (v9 : Int32) (I9 : rk_I) (J9 : rk_J), r = (v9, I9, J9) → Q (some (.int v9)) n S I9 J9 R) :
    AW G l yX10_stops cX10_stops 5 (some .int) d kc ks 0 [some (.ref 31), some (.int a1), some (.int a2), none, none] [] n S I J R Q := by
  unfold f_X10_stops at hf
  refine AW_iload_n1 dX10_stops_0 ?_
  replace hf := rk_bd hf
  obtain ⟨x1, e1, hf⟩ := hf
  refine AW_iS1iz (w_X10_isHand (d := 1) (Nat.le_refl _) e1) dX10_stops_1 kl_X10_125 (Nat.le_trans (by decide) hd) (by decide) (Nat.le_of_ble_eq_true rfl) (fun _ => ?_)
  refine AW_if_eq 14 dX10_stops_4 (by decide) (fun h1 => ?_) (fun h1 => ?_)
  · replace hf := rk_it hf h1
    refine AW_bipush (v := (-2)) dX10_stops_14 (by decide) ?_
    exact AW_iret dX10_stops_16 rfl (hq _ _ _ (Option.some.inj hf).symm)
  · replace hf := rk_if hf h1
    refine AW_iload_n2 dX10_stops_7 ?_
    replace hf := rk_bd hf
    obtain ⟨x2, e2, hf⟩ := hf
    refine AW_iS1iz (w_X10_isHour (d := 1) (Nat.le_refl _) e2) dX10_stops_8 kl_X10_138 (Nat.le_trans (by decide) hd) (by decide) (Nat.le_of_ble_eq_true rfl) (fun _ => ?_)
    refine AW_if_ne 17 dX10_stops_11 (by decide) (fun h2 => ?_) (fun h2 => ?_)
    · replace hf := rk_if hf h2
      refine AW_iconst (v := 0) dX10_stops_17 (by decide) ?_
      refine AW_istore_n3 dX10_stops_18 (by decide) rfl ?_
      refine AW_iconst (v := 0) dX10_stops_19 (by decide) ?_
      refine AW_istore_4 dX10_stops_20 (by decide) rfl ?_
      refine AW_sb (rk_sbs (rk_sbs (rk_sbs (rk_sbs (rk_sbs rk_sb0))))) ?_
      replace hf := rk_bd4 hf
      obtain ⟨x3, x4, I1, J1, e3, hf⟩ := hf
      obtain ⟨m1, e3⟩ := rk_while_sp e3
      refine L_X10_stops_w22 (Nat.le_trans (by decide) hd) hM ?_ m1 _ _ _ _ e3
      intro x3 x4 I1 J1 h9
      cases h9
      refine AW_iload_n3 dX10_stops_110 ?_
      exact AW_iret dX10_stops_111 rfl (hq _ _ _ (Option.some.inj hf).symm)
    · replace hf := rk_it hf h2
      refine AW_bipush (v := (-2)) dX10_stops_14 (by decide) ?_
      exact AW_iret dX10_stops_16 rfl (hq _ _ _ (Option.some.inj hf).symm)
theorem w_X10_stops {G : rk_G} {l : Launch} {d : Nat} {n : Nat} {S : rk_Sh} {I : rk_I} {J : rk_J} {R : rk_R} {a1 : Int32} {a2 : Int32} {v8 : Int32} {I8 : rk_I} {J8 : rk_J} (hd : 67 ≤ d) (hM : rk_LM S R) (hf : f_X10_stops I J a1 a2 = some (v8, I8, J8)) :
    CW G l yX10_stops cX10_stops 5 (some .int) d 0 0 [.ref 31, .int a1, .int a2] n S I J R (rk_qi v8 n S I8 J8 R True) :=
  CW.of (by decide +kernel) (Nat.le_of_ble_eq_true rfl) (rk_sbs (rk_sbs (rk_sbs (rk_sbe (rk_sbe rk_sb0))))) (b_X10_stops hd hM hf (fun v9 I9 J9 h9 => by cases h9; exact ⟨rfl, rfl, rfl, rfl, rfl, rfl, trivial⟩))
noncomputable def f_X9_isUnder_l4 (u1 : Int32) (s2 : Int32) (s3 : Int32) : Option ((Int32 × Int32) ⊕ ((Int32 × Int32) ⊕ (Int32))) :=
if 6 ≤ s3 then (
some (.inr (.inl (s2, s3)))) else (
(f_X9_isKind s2).bind fun x1 =>
if x1 = 0 then (
some (.inr (.inl (s2, s3)))) else (
if s2 = u1 then (
some (.inr (.inr 1))) else (
(rk_urd s2).bind fun x2 =>
some (.inl (x2, (s3 + 1))))))
theorem b_X9_isUnder_l4 {G : rk_G} {l : Launch} {d kc ks : Nat} {n : Nat} {S : rk_Sh} {I : rk_I} {J : rk_J} {R : rk_R} {Q : rk_Q} {u1 : Int32} {s2 : Int32} {s3 : Int32} {r : (Int32 × Int32) ⊕ ((Int32 × Int32) ⊕ (Int32))} (hd : 1 ≤ d) (hf : f_X9_isUnder_l4 u1 s2 s3 = some r) (hc : ∀ (w0 : Int32) (w1 : Int32), r = .inl (w0, w1) → AW G l yX9_isUnder cX9_isUnder 4 (some .boolean) d kc ks 4 [none, some (.int u1), some (.int w0), some (.int w1)] [] n S I J R Q) (he : ∀ (w0 : Int32) (w1 : Int32), r = .inr (.inl (w0, w1)) → AW G l yX9_isUnder cX9_isUnder 4 (some .boolean) d kc ks 36 [none, some (.int u1), some (.int w0), some (.int w1)] [] n S I J R Q) (hq : ∀ (v9 : Int32), r = .inr (.inr v9) → Q (some (.int v9)) n S I J R) :
    AW G l yX9_isUnder cX9_isUnder 4 (some .boolean) d kc ks 4 [none, some (.int u1), some (.int s2), some (.int s3)] [] n S I J R Q := by
  unfold f_X9_isUnder_l4 at hf
  refine AW_iload_n3 dX9_isUnder_4 ?_
  refine AW_bipush (v := 6) dX9_isUnder_5 (by decide) ?_
  refine AW_icmp_ge 36 dX9_isUnder_7 (by decide) (fun h1 => ?_) (fun h1 => ?_)
  · replace hf := rk_it hf h1
    refine AW_sb (rk_sbn (rk_sbs (rk_sbs (rk_sbs rk_sb0)))) ?_
    exact he _ _ (Option.some.inj hf).symm
  · replace hf := rk_if hf h1
    refine AW_iload_n2 dX9_isUnder_10 ?_
    replace hf := rk_bd hf
    obtain ⟨x1, e1, hf⟩ := hf
    refine AW_iS1iz (w_X9_isKind (d := 0) e1) dX9_isUnder_11 kl_X9_119 (Nat.le_trans (by decide) hd) (by decide) (Nat.le_of_ble_eq_true rfl) (fun _ => ?_)
    refine AW_if_eq 36 dX9_isUnder_14 (by decide) (fun h2 => ?_) (fun h2 => ?_)
    · replace hf := rk_it hf h2
      refine AW_sb (rk_sbn (rk_sbs (rk_sbs (rk_sbs rk_sb0)))) ?_
      exact he _ _ (Option.some.inj hf).symm
    · replace hf := rk_if hf h2
      refine AW_iload_n2 dX9_isUnder_17 ?_
      refine AW_iload_n1 dX9_isUnder_18 ?_
      refine AW_icmp_ne 24 dX9_isUnder_19 (by decide) (fun h3 => ?_) (fun h3 => ?_)
      · replace hf := rk_if hf h3
        refine AW_gsU dX9_isUnder_24 ky_X9_319 ?_
        refine AW_iload_n2 dX9_isUnder_27 ?_
        replace hf := rk_bd hf
        obtain ⟨x2, e2, hf⟩ := hf
        refine AW_urd dX9_isUnder_28 e2 ?_
        refine AW_istore_n2 dX9_isUnder_29 (by decide) rfl ?_
        refine AW_iinc_3 (v := 1) dX9_isUnder_30 (by decide) (by decide) rfl ?_
        refine AW_goto 4 dX9_isUnder_33 (by decide) ?_
        refine AW_sb (rk_sbn (rk_sbs (rk_sbs (rk_sbs rk_sb0)))) ?_
        exact hc _ _ (Option.some.inj hf).symm
      · replace hf := rk_it hf h3
        refine AW_iconst (v := 1) dX9_isUnder_22 (by decide) ?_
        exact AW_zret dX9_isUnder_23 rfl rfl (hq _ (Option.some.inj hf).symm)
theorem L_X9_isUnder_w4 {G : rk_G} {l : Launch} {d kc ks : Nat} {n : Nat} {S : rk_Sh} {I : rk_I} {J : rk_J} {R : rk_R} {Q : rk_Q} {u1 : Int32} {r : (Int32 × Int32) ⊕ (Int32)} (hd : 1 ≤ d) (he : ∀ (w0 : Int32) (w1 : Int32), r = .inl (w0, w1) → AW G l yX9_isUnder cX9_isUnder 4 (some .boolean) d kc ks 36 [none, some (.int u1), some (.int w0), some (.int w1)] [] n S I J R Q) (hq : ∀ (v9 : Int32), r = .inr v9 → Q (some (.int v9)) n S I J R) :
    ∀ (m9 : Nat) (s2 : Int32) (s3 : Int32) , rk_loop (fun a9 => f_X9_isUnder_l4 u1 a9.1 a9.2) m9 (s2, s3) = some r → AW G l yX9_isUnder cX9_isUnder 4 (some .boolean) d kc ks 4 [none, some (.int u1), some (.int s2), some (.int s3)] [] n S I J R Q := by
  intro m9
  induction m9 with
  | zero => intro s2 s3 hf; cases hf
  | succ m9 ih =>
    intro s2 s3 hf 
    obtain ⟨r9, hf, hr⟩ := rk_loop_s hf
    exact b_X9_isUnder_l4 hd hf (fun _ _ h9 => by subst h9; exact ih _ _ hr) (fun _ _ h9 => by subst h9; exact he _ _ hr.symm) (fun _ h9 => by subst h9; exact hq _ hr.symm)
noncomputable def f_X9_isUnder (a0 : Int32) (a1 : Int32) : Option (Int32) :=
(rk_while (fun a9 => f_X9_isUnder_l4 a1 a9.1 a9.2) (a0, 0)).bind fun q9 => rk_sc q9 (fun b9 => rk_p2 b9 (fun x1 x2 => (
some 0))) (fun q8 => some q8)
theorem b_X9_isUnder {G : rk_G} {l : Launch} {d kc ks : Nat} {n : Nat} {S : rk_Sh} {I : rk_I} {J : rk_J} {R : rk_R} {Q : rk_Q} {a0 : Int32} {a1 : Int32} {r : Int32} (hd : 1 ≤ d) (hf : f_X9_isUnder a0 a1 = some r) (hq : ∀ (v9 : Int32), r = v9 → Q (some (.int v9)) n S I J R) :
    AW G l yX9_isUnder cX9_isUnder 4 (some .boolean) d kc ks 0 [some (.int a0), some (.int a1), none, none] [] n S I J R Q := by
  unfold f_X9_isUnder at hf
  refine AW_iload_n0 dX9_isUnder_0 ?_
  refine AW_istore_n2 dX9_isUnder_1 (by decide) rfl ?_
  refine AW_iconst (v := 0) dX9_isUnder_2 (by decide) ?_
  refine AW_istore_n3 dX9_isUnder_3 (by decide) rfl ?_
  refine AW_sb (rk_sbn (rk_sbs (rk_sbs (rk_sbs rk_sb0)))) ?_
  replace hf := rk_bd hf
  obtain ⟨q9, e1, hf⟩ := hf
  obtain ⟨m1, e1⟩ := rk_while_sp e1
  refine L_X9_isUnder_w4 (Nat.le_trans (by decide) hd) ?_ ?_ m1 _ _ e1
  · intro x1 x2 h9
    subst h9
    replace hf := rk_scp2 hf
    refine AW_iconst (v := 0) dX9_isUnder_36 (by decide) ?_
    exact AW_zret dX9_isUnder_37 rfl rfl (hq _ (Option.some.inj hf).symm)
  · intro v7 h9
    subst h9
    replace hf := rk_sc_r hf
    exact hq _ (Option.some.inj hf).symm
theorem w_X9_isUnder {G : rk_G} {l : Launch} {d : Nat} {n : Nat} {S : rk_Sh} {I : rk_I} {J : rk_J} {R : rk_R} {a0 : Int32} {a1 : Int32} {v8 : Int32} (hd : 1 ≤ d) (hf : f_X9_isUnder a0 a1 = some v8) :
    CW G l yX9_isUnder cX9_isUnder 4 (some .boolean) d 0 0 [.int a0, .int a1] n S I J R (rk_qi v8 n S I J R True) :=
  CW.of (by decide +kernel) (Nat.le_of_ble_eq_true rfl) (rk_sbs (rk_sbs (rk_sbe (rk_sbe rk_sb0)))) (b_X9_isUnder hd hf (fun v9 h9 => by cases h9; exact ⟨rfl, rfl, rfl, rfl, rfl, rfl, trivial⟩))
noncomputable def f_X9_two (S : rk_Sh) (I : rk_I) (R : rk_R) (a1 : Int32) (a2 : Int32) (a3 : Int32) : Option (Int32) :=
(f_X9_saleAt I R a1).bind fun q1 =>
(f_X9_upperOf a2).bind fun x1 =>
(f_X9_upperOf a3).bind fun x2 =>
rk_oc q1 (
some (-2)) (fun o1 => (
(f_X9_isHand x1).bind fun x3 =>
if x3 = 0 then (
some (-2)) else (
(f_X9_isHand x2).bind fun x4 =>
if x4 = 0 then (
some (-2)) else (
if x1 = x2 then (
some (-2)) else (
(rk_ck S o1 5 11).bind fun _ =>
(f_X9_isUnder (I o1 0) 3).bind fun x5 =>
if x5 = 0 then (
some (-13)) else (
(f_X9_lowerOf a2).bind fun x6 =>
(f_X9_lowerOf a3).bind fun x7 =>
if x6 = x7 then (
some (rk_min x1 x2)) else (
(f_X9_lowerOf a2).bind fun x8 =>
(f_X9_lowerOf a3).bind fun x9 =>
if x9 ≤ x8 then (
some x2) else (
some x1))))))))
theorem b_X9_two {G : rk_G} {l : Launch} {d kc ks : Nat} {n : Nat} {S : rk_Sh} {I : rk_I} {J : rk_J} {R : rk_R} {Q : rk_Q} {a1 : Int32} {a2 : Int32} {a3 : Int32} {r : Int32} (hd : 2 ≤ d) (hL : rk_LC S R) (hf : f_X9_two S I R a1 a2 a3 = some r) (hq : ∀ (v9 : Int32), r = v9 → Q (some (.int v9)) n S I J R) :
    AW G l yX9_two cX9_two 7 (some .int) d kc ks 0 [some (.ref 0), some (.int a1), some (.int a2), some (.int a3), none, none, none] [] n S I J R Q := by
  unfold f_X9_two at hf
  refine AW_aload_n0 dX9_two_0 ?_
  refine AW_iload_n1 dX9_two_1 ?_
  replace hf := rk_bd hf
  obtain ⟨q1, e1, hf⟩ := hf
  refine AW_iV1oz (w_X9_saleAt (d := 0) hL e1) dX9_two_2 kl_X9_131 (hL.1 0 (by decide)) rfl (Nat.le_trans (by decide) hd) (by decide) (Nat.le_of_ble_eq_true rfl) (fun _ => ?_)
  refine AW_astoreO_4 dX9_two_5 (by decide) rfl ?_
  refine AW_iload_n2 dX9_two_7 ?_
  replace hf := rk_bd hf
  obtain ⟨x1, e2, hf⟩ := hf
  refine AW_iS1iz (w_X9_upperOf (d := 0) e2) dX9_two_8 kl_X9_153 (Nat.le_trans (by decide) hd) (by decide) (Nat.le_of_ble_eq_true rfl) (fun _ => ?_)
  refine AW_istore_5 dX9_two_11 (by decide) (rk_oneO _) ?_
  refine AW_iload_n3 dX9_two_13 ?_
  replace hf := rk_bd hf
  obtain ⟨x2, e3, hf⟩ := hf
  refine AW_iS1iz (w_X9_upperOf (d := 0) e3) dX9_two_14 kl_X9_153 (Nat.le_trans (by decide) hd) (by decide) (Nat.le_of_ble_eq_true rfl) (fun _ => ?_)
  refine AW_istore_6 dX9_two_17 (by decide) rfl ?_
  refine AW_aloadO_4 dX9_two_19 ?_
  rcases q1 with _ | o1
  · replace hf := rk_oc_n hf
    refine AW_ifnullN 47 dX9_two_21 (by decide) ?_
    refine AW_bipush (v := (-2)) dX9_two_47 (by decide) ?_
    exact AW_iret dX9_two_49 rfl (hq _ (Option.some.inj hf).symm)
  · replace hf := rk_oc_s hf
    refine AW_ifnull dX9_two_21 ?_
    refine AW_iload_5 dX9_two_24 ?_
    replace hf := rk_bd hf
    obtain ⟨x3, e4, hf⟩ := hf
    refine AW_iS1iz (w_X9_isHand (d := 0) e4) dX9_two_26 kl_X9_100 (Nat.le_trans (by decide) hd) (by decide) (Nat.le_of_ble_eq_true rfl) (fun _ => ?_)
    refine AW_if_eq 47 dX9_two_29 (by decide) (fun h1 => ?_) (fun h1 => ?_)
    · replace hf := rk_it hf h1
      refine AW_bipush (v := (-2)) dX9_two_47 (by decide) ?_
      exact AW_iret dX9_two_49 rfl (hq _ (Option.some.inj hf).symm)
    · replace hf := rk_if hf h1
      refine AW_iload_6 dX9_two_32 ?_
      replace hf := rk_bd hf
      obtain ⟨x4, e5, hf⟩ := hf
      refine AW_iS1iz (w_X9_isHand (d := 0) e5) dX9_two_34 kl_X9_100 (Nat.le_trans (by decide) hd) (by decide) (Nat.le_of_ble_eq_true rfl) (fun _ => ?_)
      refine AW_if_eq 47 dX9_two_37 (by decide) (fun h2 => ?_) (fun h2 => ?_)
      · replace hf := rk_it hf h2
        refine AW_bipush (v := (-2)) dX9_two_47 (by decide) ?_
        exact AW_iret dX9_two_49 rfl (hq _ (Option.some.inj hf).symm)
      · replace hf := rk_if hf h2
        refine AW_iload_5 dX9_two_40 ?_
        refine AW_iload_6 dX9_two_42 ?_
        refine AW_icmp_ne 50 dX9_two_44 (by decide) (fun h3 => ?_) (fun h3 => ?_)
        · replace hf := rk_if hf h3
          refine AW_aload_4 dX9_two_50 ?_
          replace hf := rk_bd hf
          obtain ⟨_, e6, hf⟩ := hf
          have e6 := rk_ck_sp e6
          refine AW_getI dX9_two_52 kf_X9_237 rfl e6 (by decide) ?_
          refine AW_iconst (v := 3) dX9_two_55 (by decide) ?_
          replace hf := rk_bd hf
          obtain ⟨x5, e7, hf⟩ := hf
          refine AW_iS2iz (w_X9_isUnder (d := 1) (Nat.le_refl _) e7) dX9_two_56 kl_X9_240 (Nat.le_trans (by decide) hd) (by decide) (Nat.le_of_ble_eq_true rfl) (fun _ => ?_)
          refine AW_if_ne 65 dX9_two_59 (by decide) (fun h4 => ?_) (fun h4 => ?_)
          · replace hf := rk_if hf h4
            refine AW_iload_n2 dX9_two_65 ?_
            replace hf := rk_bd hf
            obtain ⟨x6, e8, hf⟩ := hf
            refine AW_iS1iz (w_X9_lowerOf (d := 0) e8) dX9_two_66 kl_X9_158 (Nat.le_trans (by decide) hd) (by decide) (Nat.le_of_ble_eq_true rfl) (fun _ => ?_)
            refine AW_iload_n3 dX9_two_69 ?_
            replace hf := rk_bd hf
            obtain ⟨x7, e9, hf⟩ := hf
            refine AW_iS1iz (w_X9_lowerOf (d := 0) e9) dX9_two_70 kl_X9_158 (Nat.le_trans (by decide) hd) (by decide) (Nat.le_of_ble_eq_true rfl) (fun _ => ?_)
            refine AW_icmp_ne 84 dX9_two_73 (by decide) (fun h5 => ?_) (fun h5 => ?_)
            · replace hf := rk_if hf h5
              refine AW_iload_n2 dX9_two_84 ?_
              replace hf := rk_bd hf
              obtain ⟨x8, e10, hf⟩ := hf
              refine AW_iS1iz (w_X9_lowerOf (d := 0) e10) dX9_two_85 kl_X9_158 (Nat.le_trans (by decide) hd) (by decide) (Nat.le_of_ble_eq_true rfl) (fun _ => ?_)
              refine AW_iload_n3 dX9_two_88 ?_
              replace hf := rk_bd hf
              obtain ⟨x9, e11, hf⟩ := hf
              refine AW_iS1iz (w_X9_lowerOf (d := 0) e11) dX9_two_89 kl_X9_158 (Nat.le_trans (by decide) hd) (by decide) (Nat.le_of_ble_eq_true rfl) (fun _ => ?_)
              refine AW_icmp_ge 100 dX9_two_92 (by decide) (fun h6 => ?_) (fun h6 => ?_)
              · replace hf := rk_it hf h6
                refine AW_iload_6 dX9_two_100 ?_
                exact AW_iret dX9_two_102 rfl (hq _ (Option.some.inj hf).symm)
              · replace hf := rk_if hf h6
                refine AW_iload_5 dX9_two_95 ?_
                refine AW_goto 102 dX9_two_97 (by decide) ?_
                exact AW_iret dX9_two_102 rfl (hq _ (Option.some.inj hf).symm)
            · replace hf := rk_it hf h5
              refine AW_iload_5 dX9_two_76 ?_
              refine AW_iload_6 dX9_two_78 ?_
              refine AW_mmin dX9_two_80 km_X9_181 (Nat.le_trans (by decide) hd) (Nat.le_of_ble_eq_true rfl) ?_
              exact AW_iret dX9_two_83 rfl (hq _ (Option.some.inj hf).symm)
          · replace hf := rk_it hf h4
            refine AW_bipush (v := (-13)) dX9_two_62 (by decide) ?_
            exact AW_iret dX9_two_64 rfl (hq _ (Option.some.inj hf).symm)
        · replace hf := rk_it hf h3
          refine AW_bipush (v := (-2)) dX9_two_47 (by decide) ?_
          exact AW_iret dX9_two_49 rfl (hq _ (Option.some.inj hf).symm)
theorem w_X9_two {G : rk_G} {l : Launch} {d : Nat} {n : Nat} {S : rk_Sh} {I : rk_I} {J : rk_J} {R : rk_R} {a1 : Int32} {a2 : Int32} {a3 : Int32} {v8 : Int32} (hd : 2 ≤ d) (hL : rk_LC S R) (hf : f_X9_two S I R a1 a2 a3 = some v8) :
    CW G l yX9_two cX9_two 7 (some .int) d 0 0 [.ref 0, .int a1, .int a2, .int a3] n S I J R (rk_qi v8 n S I J R True) :=
  CW.of (by decide +kernel) (Nat.le_of_ble_eq_true rfl) (rk_sbs (rk_sbs (rk_sbs (rk_sbs (rk_sbe (rk_sbe (rk_sbe rk_sb0))))))) (b_X9_two hd hL hf (fun v9 h9 => by cases h9; exact ⟨rfl, rfl, rfl, rfl, rfl, rfl, trivial⟩))
noncomputable def f_X10_over (a0 : Int32) : Option (Int32) :=
if a0 = 0 then (
some (-1)) else (
if a0 = 3 then (
some 1) else (
if a0 = 4 then (
some 2) else (
if a0 = 5 then (
some 3) else (
some 0))))
theorem b_X10_over {G : rk_G} {l : Launch} {d kc ks : Nat} {n : Nat} {S : rk_Sh} {I : rk_I} {J : rk_J} {R : rk_R} {Q : rk_Q} {a0 : Int32} {r : Int32} (hf : f_X10_over a0 = some r) (hq : ∀ (v9 : Int32), r = v9 → Q (some (.int v9)) n S I J R) :
    AW G l yX10_over cX10_over 1 (some .int) d kc ks 0 [some (.int a0)] [] n S I J R Q := by
  unfold f_X10_over at hf
  refine AW_iload_n0 dX10_over_0 ?_
  refine AW_if_ne 8 dX10_over_1 (by decide) (fun h1 => ?_) (fun h1 => ?_)
  · replace hf := rk_if hf h1
    refine AW_iload_n0 dX10_over_8 ?_
    refine AW_iconst (v := 3) dX10_over_9 (by decide) ?_
    refine AW_icmp_ne 17 dX10_over_10 (by decide) (fun h2 => ?_) (fun h2 => ?_)
    · replace hf := rk_if hf h2
      refine AW_iload_n0 dX10_over_17 ?_
      refine AW_iconst (v := 4) dX10_over_18 (by decide) ?_
      refine AW_icmp_ne 26 dX10_over_19 (by decide) (fun h3 => ?_) (fun h3 => ?_)
      · replace hf := rk_if hf h3
        refine AW_iload_n0 dX10_over_26 ?_
        refine AW_iconst (v := 5) dX10_over_27 (by decide) ?_
        refine AW_icmp_ne 35 dX10_over_28 (by decide) (fun h4 => ?_) (fun h4 => ?_)
        · replace hf := rk_if hf h4
          refine AW_iconst (v := 0) dX10_over_35 (by decide) ?_
          exact AW_iret dX10_over_36 rfl (hq _ (Option.some.inj hf).symm)
        · replace hf := rk_it hf h4
          refine AW_iconst (v := 3) dX10_over_31 (by decide) ?_
          refine AW_goto 36 dX10_over_32 (by decide) ?_
          exact AW_iret dX10_over_36 rfl (hq _ (Option.some.inj hf).symm)
      · replace hf := rk_it hf h3
        refine AW_iconst (v := 2) dX10_over_22 (by decide) ?_
        refine AW_goto 36 dX10_over_23 (by decide) ?_
        exact AW_iret dX10_over_36 rfl (hq _ (Option.some.inj hf).symm)
    · replace hf := rk_it hf h2
      refine AW_iconst (v := 1) dX10_over_13 (by decide) ?_
      refine AW_goto 36 dX10_over_14 (by decide) ?_
      exact AW_iret dX10_over_36 rfl (hq _ (Option.some.inj hf).symm)
  · replace hf := rk_it hf h1
    refine AW_iconst (v := (-1)) dX10_over_4 (by decide) ?_
    refine AW_goto 36 dX10_over_5 (by decide) ?_
    exact AW_iret dX10_over_36 rfl (hq _ (Option.some.inj hf).symm)
theorem w_X10_over {G : rk_G} {l : Launch} {d : Nat} {n : Nat} {S : rk_Sh} {I : rk_I} {J : rk_J} {R : rk_R} {a0 : Int32} {v8 : Int32} (hf : f_X10_over a0 = some v8) :
    CW G l yX10_over cX10_over 1 (some .int) d 0 0 [.int a0] n S I J R (rk_qi v8 n S I J R True) :=
  CW.of (by decide +kernel) (Nat.le_of_ble_eq_true rfl) (rk_sbs rk_sb0) (b_X10_over hf (fun v9 h9 => by cases h9; exact ⟨rfl, rfl, rfl, rfl, rfl, rfl, trivial⟩))
noncomputable def f_X10_isUnder_l2 (u1 : Int32) (s2 : Int32) : Option ((Int32) ⊕ (Int32)) :=
if s2 = (-1) then (
some (.inr s2)) else (
if s2 = u1 then (
some (.inr s2)) else (
(f_X10_over s2).bind fun x1 =>
some (.inl x1)))
theorem b_X10_isUnder_l2 {G : rk_G} {l : Launch} {d kc ks : Nat} {n : Nat} {S : rk_Sh} {I : rk_I} {J : rk_J} {R : rk_R} {Q : rk_Q} {u1 : Int32} {s2 : Int32} {r : (Int32) ⊕ (Int32)} (hd : 1 ≤ d) (hf : f_X10_isUnder_l2 u1 s2 = some r) (hc : ∀ (w0 : Int32), r = .inl w0 → AW G l yX10_isUnder cX10_isUnder 3 (some .boolean) d kc ks 2 [none, some (.int u1), some (.int w0)] [] n S I J R Q) (he : ∀ (w0 : Int32), r = .inr w0 → AW G l yX10_isUnder cX10_isUnder 3 (some .boolean) d kc ks 20 [none, some (.int u1), some (.int w0)] [] n S I J R Q) :
    AW G l yX10_isUnder cX10_isUnder 3 (some .boolean) d kc ks 2 [none, some (.int u1), some (.int s2)] [] n S I J R Q := by
  unfold f_X10_isUnder_l2 at hf
  refine AW_iload_n2 dX10_isUnder_2 ?_
  refine AW_iconst (v := (-1)) dX10_isUnder_3 (by decide) ?_
  refine AW_icmp_eq 20 dX10_isUnder_4 (by decide) (fun h1 => ?_) (fun h1 => ?_)
  · replace hf := rk_it hf h1
    refine AW_sb (rk_sbn (rk_sbs (rk_sbs rk_sb0))) ?_
    exact he _ (Option.some.inj hf).symm
  · replace hf := rk_if hf h1
    refine AW_iload_n2 dX10_isUnder_7 ?_
    refine AW_iload_n1 dX10_isUnder_8 ?_
    refine AW_icmp_eq 20 dX10_isUnder_9 (by decide) (fun h2 => ?_) (fun h2 => ?_)
    · replace hf := rk_it hf h2
      refine AW_sb (rk_sbn (rk_sbs (rk_sbs rk_sb0))) ?_
      exact he _ (Option.some.inj hf).symm
    · replace hf := rk_if hf h2
      refine AW_iload_n2 dX10_isUnder_12 ?_
      replace hf := rk_bd hf
      obtain ⟨x1, e1, hf⟩ := hf
      refine AW_iS1iz (w_X10_over (d := 0) e1) dX10_isUnder_13 kl_X10_338 (Nat.le_trans (by decide) hd) (by decide) (Nat.le_of_ble_eq_true rfl) (fun _ => ?_)
      refine AW_istore_n2 dX10_isUnder_16 (by decide) rfl ?_
      refine AW_goto 2 dX10_isUnder_17 (by decide) ?_
      refine AW_sb (rk_sbn (rk_sbs (rk_sbs rk_sb0))) ?_
      exact hc _ (Option.some.inj hf).symm
theorem L_X10_isUnder_w2 {G : rk_G} {l : Launch} {d kc ks : Nat} {n : Nat} {S : rk_Sh} {I : rk_I} {J : rk_J} {R : rk_R} {Q : rk_Q} {u1 : Int32} {r : Int32} (hd : 1 ≤ d) (he : ∀ (w0 : Int32), r = w0 → AW G l yX10_isUnder cX10_isUnder 3 (some .boolean) d kc ks 20 [none, some (.int u1), some (.int w0)] [] n S I J R Q) :
    ∀ (m9 : Nat) (s2 : Int32) , rk_loop (fun a9 => f_X10_isUnder_l2 u1 a9) m9 s2 = some r → AW G l yX10_isUnder cX10_isUnder 3 (some .boolean) d kc ks 2 [none, some (.int u1), some (.int s2)] [] n S I J R Q := by
  intro m9
  induction m9 with
  | zero => intro s2 hf; cases hf
  | succ m9 ih =>
    intro s2 hf 
    obtain ⟨r9, hf, hr⟩ := rk_loop_s hf
    exact b_X10_isUnder_l2 hd hf (fun _ h9 => by subst h9; exact ih _ hr) (fun _ h9 => by subst h9; exact he _ hr.symm)
noncomputable def f_X10_isUnder (a0 : Int32) (a1 : Int32) : Option (Int32) :=
(rk_while (fun a9 => f_X10_isUnder_l2 a1 a9) a0).bind fun x1 =>
if x1 = a1 then (
some 1) else (
some 0)
theorem b_X10_isUnder {G : rk_G} {l : Launch} {d kc ks : Nat} {n : Nat} {S : rk_Sh} {I : rk_I} {J : rk_J} {R : rk_R} {Q : rk_Q} {a0 : Int32} {a1 : Int32} {r : Int32} (hd : 1 ≤ d) (hf : f_X10_isUnder a0 a1 = some r) (hq : ∀ (v9 : Int32), r = v9 → Q (some (.int v9)) n S I J R) :
    AW G l yX10_isUnder cX10_isUnder 3 (some .boolean) d kc ks 0 [some (.int a0), some (.int a1), none] [] n S I J R Q := by
  unfold f_X10_isUnder at hf
  refine AW_iload_n0 dX10_isUnder_0 ?_
  refine AW_istore_n2 dX10_isUnder_1 (by decide) rfl ?_
  refine AW_sb (rk_sbn (rk_sbs (rk_sbs rk_sb0))) ?_
  replace hf := rk_bd hf
  obtain ⟨x1, e1, hf⟩ := hf
  obtain ⟨m1, e1⟩ := rk_while_sp e1
  refine L_X10_isUnder_w2 (Nat.le_trans (by decide) hd) ?_ m1 _ e1
  intro x1 h9
  cases h9
  refine AW_iload_n2 dX10_isUnder_20 ?_
  refine AW_iload_n1 dX10_isUnder_21 ?_
  refine AW_icmp_ne 29 dX10_isUnder_22 (by decide) (fun h1 => ?_) (fun h1 => ?_)
  · replace hf := rk_if hf h1
    refine AW_iconst (v := 0) dX10_isUnder_29 (by decide) ?_
    exact AW_zret dX10_isUnder_30 rfl rfl (hq _ (Option.some.inj hf).symm)
  · replace hf := rk_it hf h1
    refine AW_iconst (v := 1) dX10_isUnder_25 (by decide) ?_
    refine AW_goto 30 dX10_isUnder_26 (by decide) ?_
    exact AW_zret dX10_isUnder_30 rfl rfl (hq _ (Option.some.inj hf).symm)
theorem w_X10_isUnder {G : rk_G} {l : Launch} {d : Nat} {n : Nat} {S : rk_Sh} {I : rk_I} {J : rk_J} {R : rk_R} {a0 : Int32} {a1 : Int32} {v8 : Int32} (hd : 1 ≤ d) (hf : f_X10_isUnder a0 a1 = some v8) :
    CW G l yX10_isUnder cX10_isUnder 3 (some .boolean) d 0 0 [.int a0, .int a1] n S I J R (rk_qi v8 n S I J R True) :=
  CW.of (by decide +kernel) (Nat.le_of_ble_eq_true rfl) (rk_sbs (rk_sbs (rk_sbe rk_sb0))) (b_X10_isUnder hd hf (fun v9 h9 => by cases h9; exact ⟨rfl, rfl, rfl, rfl, rfl, rfl, trivial⟩))
noncomputable def f_X10_two (I : rk_I) (a1 : Int32) (a2 : Int32) (a3 : Int32) : Option (Int32) :=
(f_X10_isSale I a1).bind fun x1 =>
if x1 = 0 then (
some (-2)) else (
(f_X10_in a2.toInt64 0 9999).bind fun x2 =>
if x2 = 0 then (
some (-2)) else (
(f_X10_in a3.toInt64 0 9999).bind fun x3 =>
if x3 = 0 then (
some (-2)) else (
if (a2 / 1000) = (a3 / 1000) then (
some (-2)) else (
(rk_rd I 38 24 a1).bind fun x4 =>
(f_X10_isUnder x4 3).bind fun x5 =>
if x5 = 0 then (
some (-13)) else (
if ((rk_md a2 1000) - (rk_md a3 1000)) < 0 then (
some (a2 / 1000)) else (
if ((rk_md a2 1000) - (rk_md a3 1000)) = 0 then (
if a3 ≤ a2 then (
some (a3 / 1000)) else (
some (a2 / 1000))) else (
some (a3 / 1000))))))))
theorem b_X10_two {G : rk_G} {l : Launch} {d kc ks : Nat} {n : Nat} {S : rk_Sh} {I : rk_I} {J : rk_J} {R : rk_R} {Q : rk_Q} {a1 : Int32} {a2 : Int32} {a3 : Int32} {r : Int32} (hd : 2 ≤ d) (hM : rk_LM S R) (hf : f_X10_two I a1 a2 a3 = some r) (hq : ∀ (v9 : Int32), r = v9 → Q (some (.int v9)) n S I J R) :
    AW G l yX10_two cX10_two 5 (some .int) d kc ks 0 [some (.ref 31), some (.int a1), some (.int a2), some (.int a3), none] [] n S I J R Q := by
  unfold f_X10_two at hf
  refine AW_aload_n0 dX10_two_0 ?_
  refine AW_iload_n1 dX10_two_1 ?_
  replace hf := rk_bd hf
  obtain ⟨x1, e1, hf⟩ := hf
  refine AW_iV1iz (w_X10_isSale (d := 1) (Nat.le_refl _) hM e1) dX10_two_2 kl_X10_141 (hM.1 31 (by decide) (by decide)) rfl (Nat.le_trans (by decide) hd) (by decide) (Nat.le_of_ble_eq_true rfl) (fun _ => ?_)
  refine AW_if_eq 45 dX10_two_5 (by decide) (fun h1 => ?_) (fun h1 => ?_)
  · replace hf := rk_it hf h1
    refine AW_bipush (v := (-2)) dX10_two_45 (by decide) ?_
    exact AW_iret dX10_two_47 rfl (hq _ (Option.some.inj hf).symm)
  · replace hf := rk_if hf h1
    refine AW_iload_n2 dX10_two_8 ?_
    refine AW_i2l dX10_two_9 ?_
    refine AW_lconst (v := 0) dX10_two_10 (by decide) ?_
    refine AW_ldc2 dX10_two_11 kv_X10_341 ?_
    replace hf := rk_bd hf
    obtain ⟨x2, e2, hf⟩ := hf
    refine AW_iS3iz (w_X10_in (d := 0) e2) dX10_two_14 kl_X10_114 (Nat.le_trans (by decide) hd) (by decide) (Nat.le_of_ble_eq_true rfl) (fun _ => ?_)
    refine AW_if_eq 45 dX10_two_17 (by decide) (fun h2 => ?_) (fun h2 => ?_)
    · replace hf := rk_it hf h2
      refine AW_bipush (v := (-2)) dX10_two_45 (by decide) ?_
      exact AW_iret dX10_two_47 rfl (hq _ (Option.some.inj hf).symm)
    · replace hf := rk_if hf h2
      refine AW_iload_n3 dX10_two_20 ?_
      refine AW_i2l dX10_two_21 ?_
      refine AW_lconst (v := 0) dX10_two_22 (by decide) ?_
      refine AW_ldc2 dX10_two_23 kv_X10_341 ?_
      replace hf := rk_bd hf
      obtain ⟨x3, e3, hf⟩ := hf
      refine AW_iS3iz (w_X10_in (d := 0) e3) dX10_two_26 kl_X10_114 (Nat.le_trans (by decide) hd) (by decide) (Nat.le_of_ble_eq_true rfl) (fun _ => ?_)
      refine AW_if_eq 45 dX10_two_29 (by decide) (fun h3 => ?_) (fun h3 => ?_)
      · replace hf := rk_it hf h3
        refine AW_bipush (v := (-2)) dX10_two_45 (by decide) ?_
        exact AW_iret dX10_two_47 rfl (hq _ (Option.some.inj hf).symm)
      · replace hf := rk_if hf h3
        refine AW_iload_n2 dX10_two_32 ?_
        refine AW_sipush (v := 1000) dX10_two_33 (by decide) ?_
        refine AW_idiv dX10_two_36 (by decide) ?_
        refine AW_iload_n3 dX10_two_37 ?_
        refine AW_sipush (v := 1000) dX10_two_38 (by decide) ?_
        refine AW_idiv dX10_two_41 (by decide) ?_
        refine AW_icmp_ne 48 dX10_two_42 (by decide) (fun h4 => ?_) (fun h4 => ?_)
        · replace hf := rk_if hf h4
          refine AW_aload_n0 dX10_two_48 ?_
          refine AW_getR dX10_two_49 kf_X10_32 rfl (hM.1 31 (by decide) (by decide)) (by decide) (hM.2 31 11 38 rfl) ?_
          refine AW_iload_n1 dX10_two_52 ?_
          replace hf := rk_bd hf
          obtain ⟨x4, e4, hf⟩ := hf
          refine AW_rd dX10_two_53 (hM.1 38 (by decide) (by decide)) e4 ?_
          refine AW_iconst (v := 3) dX10_two_54 (by decide) ?_
          replace hf := rk_bd hf
          obtain ⟨x5, e5, hf⟩ := hf
          refine AW_iS2iz (w_X10_isUnder (d := 1) (Nat.le_refl _) e5) dX10_two_55 kl_X10_343 (Nat.le_trans (by decide) hd) (by decide) (Nat.le_of_ble_eq_true rfl) (fun _ => ?_)
          refine AW_if_ne 64 dX10_two_58 (by decide) (fun h5 => ?_) (fun h5 => ?_)
          · replace hf := rk_if hf h5
            refine AW_iload_n2 dX10_two_64 ?_
            refine AW_sipush (v := 1000) dX10_two_65 (by decide) ?_
            refine AW_md dX10_two_68 (by decide) ?_
            refine AW_iload_n3 dX10_two_69 ?_
            refine AW_sipush (v := 1000) dX10_two_70 (by decide) ?_
            refine AW_md dX10_two_73 (by decide) ?_
            refine AW_isub dX10_two_74 ?_
            refine AW_istore_4 dX10_two_75 (by decide) rfl ?_
            refine AW_iload_4 dX10_two_77 ?_
            refine AW_if_lt 92 dX10_two_79 (by decide) (fun h6 => ?_) (fun h6 => ?_)
            · replace hf := rk_it hf h6
              refine AW_iload_n2 dX10_two_92 ?_
              refine AW_sipush (v := 1000) dX10_two_93 (by decide) ?_
              refine AW_idiv dX10_two_96 (by decide) ?_
              refine AW_goto 105 dX10_two_97 (by decide) ?_
              exact AW_iret dX10_two_105 rfl (hq _ (Option.some.inj hf).symm)
            · replace hf := rk_if hf h6
              refine AW_iload_4 dX10_two_82 ?_
              refine AW_if_ne 100 dX10_two_84 (by decide) (fun h7 => ?_) (fun h7 => ?_)
              · replace hf := rk_if hf h7
                refine AW_iload_n3 dX10_two_100 ?_
                refine AW_sipush (v := 1000) dX10_two_101 (by decide) ?_
                refine AW_idiv dX10_two_104 (by decide) ?_
                exact AW_iret dX10_two_105 rfl (hq _ (Option.some.inj hf).symm)
              · replace hf := rk_it hf h7
                refine AW_iload_n2 dX10_two_87 ?_
                refine AW_iload_n3 dX10_two_88 ?_
                refine AW_icmp_ge 100 dX10_two_89 (by decide) (fun h8 => ?_) (fun h8 => ?_)
                · replace hf := rk_it hf h8
                  refine AW_iload_n3 dX10_two_100 ?_
                  refine AW_sipush (v := 1000) dX10_two_101 (by decide) ?_
                  refine AW_idiv dX10_two_104 (by decide) ?_
                  exact AW_iret dX10_two_105 rfl (hq _ (Option.some.inj hf).symm)
                · replace hf := rk_if hf h8
                  refine AW_iload_n2 dX10_two_92 ?_
                  refine AW_sipush (v := 1000) dX10_two_93 (by decide) ?_
                  refine AW_idiv dX10_two_96 (by decide) ?_
                  refine AW_goto 105 dX10_two_97 (by decide) ?_
                  exact AW_iret dX10_two_105 rfl (hq _ (Option.some.inj hf).symm)
          · replace hf := rk_it hf h5
            refine AW_bipush (v := (-13)) dX10_two_61 (by decide) ?_
            exact AW_iret dX10_two_63 rfl (hq _ (Option.some.inj hf).symm)
        · replace hf := rk_it hf h4
          refine AW_bipush (v := (-2)) dX10_two_45 (by decide) ?_
          exact AW_iret dX10_two_47 rfl (hq _ (Option.some.inj hf).symm)
theorem w_X10_two {G : rk_G} {l : Launch} {d : Nat} {n : Nat} {S : rk_Sh} {I : rk_I} {J : rk_J} {R : rk_R} {a1 : Int32} {a2 : Int32} {a3 : Int32} {v8 : Int32} (hd : 2 ≤ d) (hM : rk_LM S R) (hf : f_X10_two I a1 a2 a3 = some v8) :
    CW G l yX10_two cX10_two 5 (some .int) d 0 0 [.ref 31, .int a1, .int a2, .int a3] n S I J R (rk_qi v8 n S I J R True) :=
  CW.of (by decide +kernel) (Nat.le_of_ble_eq_true rfl) (rk_sbs (rk_sbs (rk_sbs (rk_sbs (rk_sbe rk_sb0))))) (b_X10_two hd hM hf (fun v9 h9 => by cases h9; exact ⟨rfl, rfl, rfl, rfl, rfl, rfl, trivial⟩))
noncomputable def f_X9_keepRisk (S : rk_Sh) (I : rk_I) (R : rk_R) (a1 : Nat) (a2 : Int32) : Option (rk_I × rk_R) :=
rk_b2 (f_X1_open S I R a1 (I 0 3) 1) fun I1 R1 =>
(f_X1_runTo S I1 R1 a2).bind fun I2 =>
(rk_cp I2 13 10 19 10 0 0 10).bind fun I3 =>
some (I3, R1)
theorem b_X9_keepRisk {G : rk_G} {l : Launch} {d kc ks : Nat} {n : Nat} {S : rk_Sh} {I : rk_I} {J : rk_J} {R : rk_R} {Q : rk_Q} {a1 : Nat} {a2 : Int32} {r : rk_I × rk_R} (hd : 5 ≤ d) (hS_a1 : S a1 = (0, 5)) (hL : rk_LC S R) (hf : f_X9_keepRisk S I R a1 a2 = some r) (hq : ∀ (I9 : rk_I) (R9 : rk_R), r = (I9, R9) → rk_LC S R9 → Q (none) n S I9 J R9) :
    AW G l yX9_keepRisk cX9_keepRisk 3 none d kc ks 0 [some (.ref 0), some (.ref a1), some (.int a2)] [] n S I J R Q := by
  unfold f_X9_keepRisk at hf
  refine AW_aload_n0 dX9_keepRisk_0 ?_
  refine AW_getR dX9_keepRisk_1 kf_X9_44 rfl (hL.1 0 (by decide)) (by decide) (hL.2 0 9 12 rfl) ?_
  refine AW_aload_n1 dX9_keepRisk_4 ?_
  refine AW_aload_n0 dX9_keepRisk_5 ?_
  refine AW_getR dX9_keepRisk_6 kf_X9_17 rfl (hL.1 0 (by decide)) (by decide) (hL.2 0 2 2 rfl) ?_
  refine AW_aload_n0 dX9_keepRisk_9 ?_
  refine AW_getI dX9_keepRisk_10 kf_X9_125 rfl (hL.1 0 (by decide)) (by decide) ?_
  refine AW_iconst (v := 1) dX9_keepRisk_13 (by decide) ?_
  replace hf := rk_bd2 hf
  obtain ⟨I1, R1, e1, hf⟩ := hf
  refine AW_iV4vz (w_X1_open (d := 4) (Nat.le_refl _) hS_a1 hL e1) dX9_keepRisk_14 kl_X9_168 (hL.1 12 (by decide)) rfl (Nat.le_trans (by decide) hd) (by decide) (Nat.le_of_ble_eq_true rfl) (fun hL1 => ?_)
  refine AW_aload_n0 dX9_keepRisk_17 ?_
  refine AW_getR dX9_keepRisk_18 kf_X9_44 rfl (hL1.1 0 (by decide)) (by decide) (hL1.2 0 9 12 rfl) ?_
  refine AW_iload_n2 dX9_keepRisk_21 ?_
  replace hf := rk_bd hf
  obtain ⟨I2, e2, hf⟩ := hf
  refine AW_iV1vz (w_X1_runTo (d := 1) (Nat.le_refl _) hL1 e2) dX9_keepRisk_22 kl_X9_172 (hL1.1 12 (by decide)) rfl (Nat.le_trans (by decide) hd) (by decide) (Nat.le_of_ble_eq_true rfl) (fun _ => ?_)
  refine AW_aload_n0 dX9_keepRisk_25 ?_
  refine AW_getR dX9_keepRisk_26 kf_X9_44 rfl (hL1.1 0 (by decide)) (by decide) (hL1.2 0 9 12 rfl) ?_
  refine AW_getR dX9_keepRisk_29 kf_X9_175 rfl (hL1.1 12 (by decide)) (by decide) (hL1.2 12 0 13 rfl) ?_
  refine AW_iconst (v := 0) dX9_keepRisk_32 (by decide) ?_
  refine AW_aload_n0 dX9_keepRisk_33 ?_
  refine AW_getR dX9_keepRisk_34 kf_X9_61 rfl (hL1.1 0 (by decide)) (by decide) (hL1.2 0 12 19 rfl) ?_
  refine AW_iconst (v := 0) dX9_keepRisk_37 (by decide) ?_
  refine AW_bipush (v := 10) dX9_keepRisk_38 (by decide) ?_
  replace hf := rk_bd hf
  obtain ⟨I3, e3, hf⟩ := hf
  refine AW_copy dX9_keepRisk_40 kp_X9_306 (hL1.1 13 (by decide)) (hL1.1 19 (by decide)) e3 (Nat.le_trans (by decide) hd) (Nat.le_of_ble_eq_true rfl) ?_
  exact AW_vret dX9_keepRisk_43 rfl (hq _ _ (Option.some.inj hf).symm hL1)
theorem w_X9_keepRisk {G : rk_G} {l : Launch} {d : Nat} {n : Nat} {S : rk_Sh} {I : rk_I} {J : rk_J} {R : rk_R} {a1 : Nat} {a2 : Int32} {I8 : rk_I} {R8 : rk_R} (hd : 5 ≤ d) (hS_a1 : S a1 = (0, 5)) (hL : rk_LC S R) (hf : f_X9_keepRisk S I R a1 a2 = some (I8, R8)) :
    CW G l yX9_keepRisk cX9_keepRisk 3 none d 0 0 [.ref 0, .ref a1, .int a2] n S I J R (rk_qv n S I8 J R8 (rk_LC S R8)) :=
  CW.of (by decide +kernel) (Nat.le_of_ble_eq_true rfl) (rk_sbs (rk_sbs (rk_sbs rk_sb0))) (b_X9_keepRisk hd hS_a1 hL hf (fun I9 R9 h9 hl9 => by cases h9; exact ⟨rfl, rfl, rfl, rfl, rfl, rfl, hl9⟩))
noncomputable def f_X9_changeWithout_l54 (S : rk_Sh) (I : rk_I) (R : rk_R) (s5 : Int32) (s6 : Int32) : Option ((Int32 × Int32) ⊕ (Int32 × Int32)) :=
if 10 ≤ s6 then (
some (.inr (s5, s6))) else (
(rk_rd I 13 10 s6).bind fun x1 =>
(rk_rd I 19 10 s6).bind fun x2 =>
some (.inl ((s5 + (rk_abs (x1 - x2))), (s6 + 1))))
theorem b_X9_changeWithout_l54 {G : rk_G} {l : Launch} {d kc ks : Nat} {n : Nat} {S : rk_Sh} {I : rk_I} {J : rk_J} {R : rk_R} {Q : rk_Q} {s5 : Int32} {s6 : Int32} {r : (Int32 × Int32) ⊕ (Int32 × Int32)} (hd : 5 ≤ d) (hL : rk_LC S R) (hf : f_X9_changeWithout_l54 S I R s5 s6 = some r) (hc : ∀ (w0 : Int32) (w1 : Int32), r = .inl (w0, w1) → AW G l yX9_changeWithout cX9_changeWithout 7 (some .int) d kc ks 54 [some (.ref 0), none, none, none, none, some (.int w0), some (.int w1)] [] n S I J R Q) (he : ∀ (w0 : Int32) (w1 : Int32), r = .inr (w0, w1) → AW G l yX9_changeWithout cX9_changeWithout 7 (some .int) d kc ks 93 [some (.ref 0), none, none, none, none, some (.int w0), some (.int w1)] [] n S I J R Q) :
    AW G l yX9_changeWithout cX9_changeWithout 7 (some .int) d kc ks 54 [some (.ref 0), none, none, none, none, some (.int s5), some (.int s6)] [] n S I J R Q := by
  unfold f_X9_changeWithout_l54 at hf
  refine AW_iload_6 dX9_changeWithout_54 ?_
  refine AW_bipush (v := 10) dX9_changeWithout_56 (by decide) ?_
  refine AW_icmp_ge 93 dX9_changeWithout_58 (by decide) (fun h1 => ?_) (fun h1 => ?_)
  · replace hf := rk_it hf h1
    refine AW_sb (rk_sbs (rk_sbn (rk_sbn (rk_sbn (rk_sbn (rk_sbs (rk_sbs rk_sb0))))))) ?_
    exact he _ _ (Option.some.inj hf).symm
  · replace hf := rk_if hf h1
    refine AW_iload_5 dX9_changeWithout_61 ?_
    refine AW_aload_n0 dX9_changeWithout_63 ?_
    refine AW_getR dX9_changeWithout_64 kf_X9_44 rfl (hL.1 0 (by decide)) (by decide) (hL.2 0 9 12 rfl) ?_
    refine AW_getR dX9_changeWithout_67 kf_X9_175 rfl (hL.1 12 (by decide)) (by decide) (hL.2 12 0 13 rfl) ?_
    refine AW_iload_6 dX9_changeWithout_70 ?_
    replace hf := rk_bd hf
    obtain ⟨x1, e1, hf⟩ := hf
    refine AW_rd dX9_changeWithout_72 (hL.1 13 (by decide)) e1 ?_
    refine AW_aload_n0 dX9_changeWithout_73 ?_
    refine AW_getR dX9_changeWithout_74 kf_X9_61 rfl (hL.1 0 (by decide)) (by decide) (hL.2 0 12 19 rfl) ?_
    refine AW_iload_6 dX9_changeWithout_77 ?_
    replace hf := rk_bd hf
    obtain ⟨x2, e2, hf⟩ := hf
    refine AW_rd dX9_changeWithout_79 (hL.1 19 (by decide)) e2 ?_
    refine AW_isub dX9_changeWithout_80 ?_
    refine AW_mabs dX9_changeWithout_81 km_X9_322 (Nat.le_trans (by decide) hd) (Nat.le_of_ble_eq_true rfl) ?_
    refine AW_iadd dX9_changeWithout_84 ?_
    refine AW_istore_5 dX9_changeWithout_85 (by decide) rfl ?_
    refine AW_iinc_6 (v := 1) dX9_changeWithout_87 (by decide) (by decide) rfl ?_
    refine AW_goto 54 dX9_changeWithout_90 (by decide) ?_
    refine AW_sb (rk_sbs (rk_sbn (rk_sbn (rk_sbn (rk_sbn (rk_sbs (rk_sbs rk_sb0))))))) ?_
    exact hc _ _ (Option.some.inj hf).symm
theorem L_X9_changeWithout_w54 {G : rk_G} {l : Launch} {d kc ks : Nat} {n : Nat} {S : rk_Sh} {I : rk_I} {J : rk_J} {R : rk_R} {Q : rk_Q}  {r : Int32 × Int32} (hd : 5 ≤ d) (hL : rk_LC S R) (he : ∀ (w0 : Int32) (w1 : Int32), r = (w0, w1) → AW G l yX9_changeWithout cX9_changeWithout 7 (some .int) d kc ks 93 [some (.ref 0), none, none, none, none, some (.int w0), some (.int w1)] [] n S I J R Q) :
    ∀ (m9 : Nat) (s5 : Int32) (s6 : Int32) , rk_loop (fun a9 => f_X9_changeWithout_l54 S I R a9.1 a9.2) m9 (s5, s6) = some r → AW G l yX9_changeWithout cX9_changeWithout 7 (some .int) d kc ks 54 [some (.ref 0), none, none, none, none, some (.int s5), some (.int s6)] [] n S I J R Q := by
  intro m9
  induction m9 with
  | zero => intro s5 s6 hf; cases hf
  | succ m9 ih =>
    intro s5 s6 hf 
    obtain ⟨r9, hf, hr⟩ := rk_loop_s hf
    exact b_X9_changeWithout_l54 hd hL hf (fun _ _ h9 => by subst h9; exact ih _ _ hr) (fun _ _ h9 => by subst h9; exact he _ _ hr.symm)
noncomputable def f_X9_changeWithout (S : rk_Sh) (I : rk_I) (R : rk_R) (a1 : Nat) (a2 : Int32) (a3 : Int32) : Option (Int32 × rk_I × rk_R) :=
(some (R a1 3)).bind fun q1 =>
(q1).bind fun o1 =>
(rk_rdD S I o1 a2).bind fun x1 =>
(some (R a1 3)).bind fun q2 =>
(q2).bind fun o2 =>
(rk_wrD S I o2 a2 (-1)).bind fun I1 =>
rk_b2 (f_X1_open S I1 R a1 (I1 0 3) 1) fun I2 R1 =>
(f_X1_runTo S I2 R1 a3).bind fun I3 =>
(some (R1 a1 3)).bind fun q3 =>
(q3).bind fun o3 =>
(rk_wrD S I3 o3 a2 x1).bind fun I4 =>
rk_b2 (rk_while (fun a9 => f_X9_changeWithout_l54 S I4 R1 a9.1 a9.2) (0, 0)) fun x2 x3 =>
some (x2, I4, R1)
theorem b_X9_changeWithout {G : rk_G} {l : Launch} {d kc ks : Nat} {n : Nat} {S : rk_Sh} {I : rk_I} {J : rk_J} {R : rk_R} {Q : rk_Q} {a1 : Nat} {a2 : Int32} {a3 : Int32} {r : Int32 × rk_I × rk_R} (hd : 5 ≤ d) (hS_a1 : S a1 = (0, 5)) (hL : rk_LC S R) (hf : f_X9_changeWithout S I R a1 a2 a3 = some r) (hq : ∀ (v9 : Int32) (I9 : rk_I) (R9 : rk_R), r = (v9, I9, R9) → rk_LC S R9 → Q (some (.int v9)) n S I9 J R9) :
    AW G l yX9_changeWithout cX9_changeWithout 7 (some .int) d kc ks 0 [some (.ref 0), some (.ref a1), some (.int a2), some (.int a3), none, none, none] [] n S I J R Q := by
  unfold f_X9_changeWithout at hf
  refine AW_aload_n1 dX9_changeWithout_0 ?_
  replace hf := rk_bd hf
  obtain ⟨q1, e1, hf⟩ := hf
  refine AW_getQ dX9_changeWithout_1 kf_X9_116 rfl hS_a1 (by decide) e1 ?_
  refine AW_iload_n2 dX9_changeWithout_4 ?_
  replace hf := rk_bd hf
  obtain ⟨o1, e2, hf⟩ := hf
  subst e2
  replace hf := rk_bd hf
  obtain ⟨x1, e3, hf⟩ := hf
  refine AW_rdD dX9_changeWithout_5 e3 ?_
  refine AW_istore_4 dX9_changeWithout_6 (by decide) rfl ?_
  refine AW_aload_n1 dX9_changeWithout_8 ?_
  replace hf := rk_bd hf
  obtain ⟨q2, e4, hf⟩ := hf
  refine AW_getQ dX9_changeWithout_9 kf_X9_116 rfl hS_a1 (by decide) e4 ?_
  refine AW_iload_n2 dX9_changeWithout_12 ?_
  refine AW_iconst (v := (-1)) dX9_changeWithout_13 (by decide) ?_
  replace hf := rk_bd hf
  obtain ⟨o2, e5, hf⟩ := hf
  subst e5
  replace hf := rk_bd hf
  obtain ⟨I1, e6, hf⟩ := hf
  refine AW_wrD dX9_changeWithout_14 e6 ?_
  refine AW_aload_n0 dX9_changeWithout_15 ?_
  refine AW_getR dX9_changeWithout_16 kf_X9_44 rfl (hL.1 0 (by decide)) (by decide) (hL.2 0 9 12 rfl) ?_
  refine AW_aload_n1 dX9_changeWithout_19 ?_
  refine AW_aload_n0 dX9_changeWithout_20 ?_
  refine AW_getR dX9_changeWithout_21 kf_X9_17 rfl (hL.1 0 (by decide)) (by decide) (hL.2 0 2 2 rfl) ?_
  refine AW_aload_n0 dX9_changeWithout_24 ?_
  refine AW_getI dX9_changeWithout_25 kf_X9_125 rfl (hL.1 0 (by decide)) (by decide) ?_
  refine AW_iconst (v := 1) dX9_changeWithout_28 (by decide) ?_
  replace hf := rk_bd2 hf
  obtain ⟨I2, R1, e7, hf⟩ := hf
  refine AW_iV4vz (w_X1_open (d := 4) (Nat.le_refl _) hS_a1 hL e7) dX9_changeWithout_29 kl_X9_168 (hL.1 12 (by decide)) rfl (Nat.le_trans (by decide) hd) (by decide) (Nat.le_of_ble_eq_true rfl) (fun hL1 => ?_)
  refine AW_aload_n0 dX9_changeWithout_32 ?_
  refine AW_getR dX9_changeWithout_33 kf_X9_44 rfl (hL1.1 0 (by decide)) (by decide) (hL1.2 0 9 12 rfl) ?_
  refine AW_iload_n3 dX9_changeWithout_36 ?_
  replace hf := rk_bd hf
  obtain ⟨I3, e8, hf⟩ := hf
  refine AW_iV1vz (w_X1_runTo (d := 1) (Nat.le_refl _) hL1 e8) dX9_changeWithout_37 kl_X9_172 (hL1.1 12 (by decide)) rfl (Nat.le_trans (by decide) hd) (by decide) (Nat.le_of_ble_eq_true rfl) (fun _ => ?_)
  refine AW_aload_n1 dX9_changeWithout_40 ?_
  replace hf := rk_bd hf
  obtain ⟨q3, e9, hf⟩ := hf
  refine AW_getQ dX9_changeWithout_41 kf_X9_116 rfl hS_a1 (by decide) e9 ?_
  refine AW_iload_n2 dX9_changeWithout_44 ?_
  refine AW_iload_4 dX9_changeWithout_45 ?_
  replace hf := rk_bd hf
  obtain ⟨o3, e10, hf⟩ := hf
  subst e10
  replace hf := rk_bd hf
  obtain ⟨I4, e11, hf⟩ := hf
  refine AW_wrD dX9_changeWithout_47 e11 ?_
  refine AW_iconst (v := 0) dX9_changeWithout_48 (by decide) ?_
  refine AW_istore_5 dX9_changeWithout_49 (by decide) rfl ?_
  refine AW_iconst (v := 0) dX9_changeWithout_51 (by decide) ?_
  refine AW_istore_6 dX9_changeWithout_52 (by decide) rfl ?_
  refine AW_sb (rk_sbs (rk_sbn (rk_sbn (rk_sbn (rk_sbn (rk_sbs (rk_sbs rk_sb0))))))) ?_
  replace hf := rk_bd2 hf
  obtain ⟨x2, x3, e12, hf⟩ := hf
  obtain ⟨m1, e12⟩ := rk_while_sp e12
  refine L_X9_changeWithout_w54 (Nat.le_trans (by decide) hd) hL1 ?_ m1 _ _ e12
  intro x2 x3 h9
  cases h9
  refine AW_iload_5 dX9_changeWithout_93 ?_
  exact AW_iret dX9_changeWithout_95 rfl (hq _ _ _ (Option.some.inj hf).symm hL1)
theorem w_X9_changeWithout {G : rk_G} {l : Launch} {d : Nat} {n : Nat} {S : rk_Sh} {I : rk_I} {J : rk_J} {R : rk_R} {a1 : Nat} {a2 : Int32} {a3 : Int32} {v8 : Int32} {I8 : rk_I} {R8 : rk_R} (hd : 5 ≤ d) (hS_a1 : S a1 = (0, 5)) (hL : rk_LC S R) (hf : f_X9_changeWithout S I R a1 a2 a3 = some (v8, I8, R8)) :
    CW G l yX9_changeWithout cX9_changeWithout 7 (some .int) d 0 0 [.ref 0, .ref a1, .int a2, .int a3] n S I J R (rk_qi v8 n S I8 J R8 (rk_LC S R8)) :=
  CW.of (by decide +kernel) (Nat.le_of_ble_eq_true rfl) (rk_sbs (rk_sbs (rk_sbs (rk_sbs (rk_sbe (rk_sbe (rk_sbe rk_sb0))))))) (b_X9_changeWithout hd hS_a1 hL hf (fun v9 I9 R9 h9 hl9 => by cases h9; exact ⟨rfl, rfl, rfl, rfl, rfl, rfl, hl9⟩))
noncomputable def f_X9_hangs_j31 (S : rk_Sh) (I : rk_I) (R : rk_R) (j2 : Int32) (j3 : Int32) (j4 : Nat) : Option (Int32 × rk_I × rk_R) :=
rk_b2 (f_X9_keepRisk S I R j4 j2) fun I1 R1 =>
(rk_ck S j4 0 5).bind fun _ =>
rk_b3 (f_X9_changeWithout S I1 R1 j4 0 j2) fun x1 I2 R2 =>
rk_b3 (f_X9_changeWithout S I2 R2 j4 1 j2) fun x2 I3 R3 =>
if (rk_max x1 x2) = 0 then (
some ((-1), I3, R3)) else (
if j3 = 1 then (
some ((rk_max x1 x2), I3, R3)) else (
if x1 = (rk_max x1 x2) then (
some (0, I3, R3)) else (
some (1, I3, R3))))
theorem b_X9_hangs_j31 {G : rk_G} {l : Launch} {d kc ks : Nat} {n : Nat} {S : rk_Sh} {I : rk_I} {J : rk_J} {R : rk_R} {Q : rk_Q} {j2 : Int32} {j3 : Int32} {j4 : Nat} {r : Int32 × rk_I × rk_R} (hd : 6 ≤ d) (hL : rk_LC S R) (hf : f_X9_hangs_j31 S I R j2 j3 j4 = some r) (hq : ∀ (v9 : Int32) (I9 : rk_I) (R9 : rk_R), r = (v9, I9, R9) → rk_LC S R9 → Q (some (.int v9)) n S I9 J R9) :
    AW G l yX9_hangs cX9_hangs 8 (some .int) d kc ks 31 [some (.ref 0), none, some (.int j2), some (.int j3), some (.ref j4), none, none, none] [] n S I J R Q := by
  unfold f_X9_hangs_j31 at hf
  refine AW_aload_n0 dX9_hangs_31 ?_
  refine AW_aload_4 dX9_hangs_32 ?_
  refine AW_iload_n2 dX9_hangs_34 ?_
  replace hf := rk_bd2 hf
  obtain ⟨I1, R1, e1, hf⟩ := hf
  replace hf := rk_bd hf
  obtain ⟨_, e2, hf⟩ := hf
  have e2 := rk_ck_sp e2
  refine AW_iV2vz (w_X9_keepRisk (d := 5) (Nat.le_refl _) e2 hL e1) dX9_hangs_35 kl_X9_244 (hL.1 0 (by decide)) rfl (Nat.le_trans (by decide) hd) (by decide) (Nat.le_of_ble_eq_true rfl) (fun hL1 => ?_)
  refine AW_aload_n0 dX9_hangs_38 ?_
  refine AW_aload_4 dX9_hangs_39 ?_
  refine AW_iconst (v := 0) dX9_hangs_41 (by decide) ?_
  refine AW_iload_n2 dX9_hangs_42 ?_
  replace hf := rk_bd3 hf
  obtain ⟨x1, I2, R2, e3, hf⟩ := hf
  refine AW_iV3iz (w_X9_changeWithout (d := 5) (Nat.le_refl _) e2 hL1 e3) dX9_hangs_43 kl_X9_248 (hL1.1 0 (by decide)) rfl (Nat.le_trans (by decide) hd) (by decide) (Nat.le_of_ble_eq_true rfl) (fun hL2 => ?_)
  refine AW_istore_5 dX9_hangs_46 (by decide) rfl ?_
  refine AW_aload_n0 dX9_hangs_48 ?_
  refine AW_aload_4 dX9_hangs_49 ?_
  refine AW_iconst (v := 1) dX9_hangs_51 (by decide) ?_
  refine AW_iload_n2 dX9_hangs_52 ?_
  replace hf := rk_bd3 hf
  obtain ⟨x2, I3, R3, e4, hf⟩ := hf
  refine AW_iV3iz (w_X9_changeWithout (d := 5) (Nat.le_refl _) e2 hL2 e4) dX9_hangs_53 kl_X9_248 (hL2.1 0 (by decide)) rfl (Nat.le_trans (by decide) hd) (by decide) (Nat.le_of_ble_eq_true rfl) (fun hL3 => ?_)
  refine AW_istore_6 dX9_hangs_56 (by decide) rfl ?_
  refine AW_iload_5 dX9_hangs_58 ?_
  refine AW_iload_6 dX9_hangs_60 ?_
  refine AW_mmax dX9_hangs_62 km_X9_186 (Nat.le_trans (by decide) hd) (Nat.le_of_ble_eq_true rfl) ?_
  refine AW_istore_7 dX9_hangs_65 (by decide) rfl ?_
  refine AW_iload_7 dX9_hangs_67 ?_
  refine AW_if_ne 74 dX9_hangs_69 (by decide) (fun h1 => ?_) (fun h1 => ?_)
  · replace hf := rk_if hf h1
    refine AW_iload_n3 dX9_hangs_74 ?_
    refine AW_iconst (v := 1) dX9_hangs_75 (by decide) ?_
    refine AW_icmp_ne 82 dX9_hangs_76 (by decide) (fun h2 => ?_) (fun h2 => ?_)
    · replace hf := rk_if hf h2
      refine AW_iload_5 dX9_hangs_82 ?_
      refine AW_iload_7 dX9_hangs_84 ?_
      refine AW_icmp_ne 93 dX9_hangs_86 (by decide) (fun h3 => ?_) (fun h3 => ?_)
      · replace hf := rk_if hf h3
        refine AW_iconst (v := 1) dX9_hangs_93 (by decide) ?_
        exact AW_iret dX9_hangs_94 rfl (hq _ _ _ (Option.some.inj hf).symm hL3)
      · replace hf := rk_it hf h3
        refine AW_iconst (v := 0) dX9_hangs_89 (by decide) ?_
        refine AW_goto 94 dX9_hangs_90 (by decide) ?_
        exact AW_iret dX9_hangs_94 rfl (hq _ _ _ (Option.some.inj hf).symm hL3)
    · replace hf := rk_it hf h2
      refine AW_iload_7 dX9_hangs_79 ?_
      exact AW_iret dX9_hangs_81 rfl (hq _ _ _ (Option.some.inj hf).symm hL3)
  · replace hf := rk_it hf h1
    refine AW_iconst (v := (-1)) dX9_hangs_72 (by decide) ?_
    exact AW_iret dX9_hangs_73 rfl (hq _ _ _ (Option.some.inj hf).symm hL3)
noncomputable def f_X9_hangs (S : rk_Sh) (I : rk_I) (R : rk_R) (a1 : Int32) (a2 : Int32) (a3 : Int32) : Option (Int32 × rk_I × rk_R) :=
(f_X9_cargoAt I R a1).bind fun q1 =>
rk_oc q1 (
some ((-2), I, R)) (fun o1 => (
(f_X9_isHour a2).bind fun x1 =>
if x1 = 0 then (
some ((-2), I, R)) else (
if a3 = 0 then (
f_X9_hangs_j31 S I R a2 a3 o1) else (
if a3 = 1 then (
f_X9_hangs_j31 S I R a2 a3 o1) else (
some ((-2), I, R))))))
theorem b_X9_hangs {G : rk_G} {l : Launch} {d kc ks : Nat} {n : Nat} {S : rk_Sh} {I : rk_I} {J : rk_J} {R : rk_R} {Q : rk_Q} {a1 : Int32} {a2 : Int32} {a3 : Int32} {r : Int32 × rk_I × rk_R} (hd : 6 ≤ d) (hL : rk_LC S R) (hf : f_X9_hangs S I R a1 a2 a3 = some r) (hq : ∀ (v9 : Int32) (I9 : rk_I) (R9 : rk_R), r = (v9, I9, R9) → rk_LC S R9 → Q (some (.int v9)) n S I9 J R9) :
    AW G l yX9_hangs cX9_hangs 8 (some .int) d kc ks 0 [some (.ref 0), some (.int a1), some (.int a2), some (.int a3), none, none, none, none] [] n S I J R Q := by
  unfold f_X9_hangs at hf
  refine AW_aload_n0 dX9_hangs_0 ?_
  refine AW_iload_n1 dX9_hangs_1 ?_
  replace hf := rk_bd hf
  obtain ⟨q1, e1, hf⟩ := hf
  refine AW_iV1oz (w_X9_cargoAt (d := 0) hL e1) dX9_hangs_2 kl_X9_109 (hL.1 0 (by decide)) rfl (Nat.le_trans (by decide) hd) (by decide) (Nat.le_of_ble_eq_true rfl) (fun _ => ?_)
  refine AW_astoreO_4 dX9_hangs_5 (by decide) rfl ?_
  refine AW_aloadO_4 dX9_hangs_7 ?_
  rcases q1 with _ | o1
  · replace hf := rk_oc_n hf
    refine AW_ifnullN 28 dX9_hangs_9 (by decide) ?_
    refine AW_bipush (v := (-2)) dX9_hangs_28 (by decide) ?_
    exact AW_iret dX9_hangs_30 rfl (hq _ _ _ (Option.some.inj hf).symm hL)
  · replace hf := rk_oc_s hf
    refine AW_ifnull dX9_hangs_9 ?_
    refine AW_iload_n2 dX9_hangs_12 ?_
    replace hf := rk_bd hf
    obtain ⟨x1, e2, hf⟩ := hf
    refine AW_iS1iz (w_X9_isHour (d := 0) e2) dX9_hangs_13 kl_X9_122 (Nat.le_trans (by decide) hd) (by decide) (Nat.le_of_ble_eq_true rfl) (fun _ => ?_)
    refine AW_if_eq 28 dX9_hangs_16 (by decide) (fun h1 => ?_) (fun h1 => ?_)
    · replace hf := rk_it hf h1
      refine AW_bipush (v := (-2)) dX9_hangs_28 (by decide) ?_
      exact AW_iret dX9_hangs_30 rfl (hq _ _ _ (Option.some.inj hf).symm hL)
    · replace hf := rk_if hf h1
      refine AW_iload_n3 dX9_hangs_19 ?_
      refine AW_if_eq 31 dX9_hangs_20 (by decide) (fun h2 => ?_) (fun h2 => ?_)
      · replace hf := rk_it hf h2
        refine AW_sb (rk_sbs (rk_sbn (rk_sbs (rk_sbs (rk_sbs (rk_sbn (rk_sbn (rk_sbn rk_sb0)))))))) ?_
        exact b_X9_hangs_j31 (Nat.le_trans (by decide) hd) hL hf hq
      · replace hf := rk_if hf h2
        refine AW_iload_n3 dX9_hangs_23 ?_
        refine AW_iconst (v := 1) dX9_hangs_24 (by decide) ?_
        refine AW_icmp_eq 31 dX9_hangs_25 (by decide) (fun h3 => ?_) (fun h3 => ?_)
        · replace hf := rk_it hf h3
          refine AW_sb (rk_sbs (rk_sbn (rk_sbs (rk_sbs (rk_sbs (rk_sbn (rk_sbn (rk_sbn rk_sb0)))))))) ?_
          exact b_X9_hangs_j31 (Nat.le_trans (by decide) hd) hL hf hq
        · replace hf := rk_if hf h3
          refine AW_bipush (v := (-2)) dX9_hangs_28 (by decide) ?_
          exact AW_iret dX9_hangs_30 rfl (hq _ _ _ (Option.some.inj hf).symm hL)
theorem w_X9_hangs {G : rk_G} {l : Launch} {d : Nat} {n : Nat} {S : rk_Sh} {I : rk_I} {J : rk_J} {R : rk_R} {a1 : Int32} {a2 : Int32} {a3 : Int32} {v8 : Int32} {I8 : rk_I} {R8 : rk_R} (hd : 6 ≤ d) (hL : rk_LC S R) (hf : f_X9_hangs S I R a1 a2 a3 = some (v8, I8, R8)) :
    CW G l yX9_hangs cX9_hangs 8 (some .int) d 0 0 [.ref 0, .int a1, .int a2, .int a3] n S I J R (rk_qi v8 n S I8 J R8 (rk_LC S R8)) :=
  CW.of (by decide +kernel) (Nat.le_of_ble_eq_true rfl) (rk_sbs (rk_sbs (rk_sbs (rk_sbs (rk_sbe (rk_sbe (rk_sbe (rk_sbe rk_sb0)))))))) (b_X9_hangs hd hL hf (fun v9 I9 R9 h9 hl9 => by cases h9; exact ⟨rfl, rfl, rfl, rfl, rfl, rfl, hl9⟩))
noncomputable def f_X10_keeps_l9 (I : rk_I) (s3 : Int32) : Option ((Int32 × rk_I) ⊕ (Int32 × rk_I)) :=
if 10 ≤ s3 then (
some (.inr (s3, I))) else (
(rk_rd I 47 10 s3).bind fun x1 =>
(rk_wr I 49 10 s3 x1).bind fun I1 =>
some (.inl ((s3 + 1), I1)))
theorem b_X10_keeps_l9 {G : rk_G} {l : Launch} {d kc ks : Nat} {n : Nat} {S : rk_Sh} {I : rk_I} {J : rk_J} {R : rk_R} {Q : rk_Q} {s3 : Int32} {r : (Int32 × rk_I) ⊕ (Int32 × rk_I)} (hd : 5 ≤ d) (hM : rk_LM S R) (hf : f_X10_keeps_l9 I s3 = some r) (hc : ∀ (w0 : Int32) (I9 : rk_I), r = .inl (w0, I9) → AW G l yX10_keeps cX10_keeps 4 none d kc ks 9 [some (.ref 31), none, none, some (.int w0)] [] n S I9 J R Q) (he : ∀ (w0 : Int32) (I9 : rk_I), r = .inr (w0, I9) → AW G l yX10_keeps cX10_keeps 4 none d kc ks 33 [some (.ref 31), none, none, some (.int w0)] [] n S I9 J R Q) :
    AW G l yX10_keeps cX10_keeps 4 none d kc ks 9 [some (.ref 31), none, none, some (.int s3)] [] n S I J R Q := by
  unfold f_X10_keeps_l9 at hf
  refine AW_iload_n3 dX10_keeps_9 ?_
  refine AW_bipush (v := 10) dX10_keeps_10 (by decide) ?_
  refine AW_icmp_ge 33 dX10_keeps_12 (by decide) (fun h1 => ?_) (fun h1 => ?_)
  · replace hf := rk_it hf h1
    refine AW_sb (rk_sbs (rk_sbn (rk_sbn (rk_sbs rk_sb0)))) ?_
    exact he _ _ (Option.some.inj hf).symm
  · replace hf := rk_if hf h1
    refine AW_aload_n0 dX10_keeps_15 ?_
    refine AW_getR dX10_keeps_16 kf_X10_65 rfl (hM.1 31 (by decide) (by decide)) (by decide) (hM.2 31 34 49 rfl) ?_
    refine AW_iload_n3 dX10_keeps_19 ?_
    refine AW_aload_n0 dX10_keeps_20 ?_
    refine AW_getR dX10_keeps_21 kf_X10_59 rfl (hM.1 31 (by decide) (by decide)) (by decide) (hM.2 31 21 47 rfl) ?_
    refine AW_iload_n3 dX10_keeps_24 ?_
    replace hf := rk_bd hf
    obtain ⟨x1, e1, hf⟩ := hf
    refine AW_rd dX10_keeps_25 (hM.1 47 (by decide) (by decide)) e1 ?_
    replace hf := rk_bd hf
    obtain ⟨I1, e2, hf⟩ := hf
    refine AW_wr dX10_keeps_26 (hM.1 49 (by decide) (by decide)) e2 ?_
    refine AW_iinc_3 (v := 1) dX10_keeps_27 (by decide) (by decide) rfl ?_
    refine AW_goto 9 dX10_keeps_30 (by decide) ?_
    refine AW_sb (rk_sbs (rk_sbn (rk_sbn (rk_sbs rk_sb0)))) ?_
    exact hc _ _ (Option.some.inj hf).symm
theorem L_X10_keeps_w9 {G : rk_G} {l : Launch} {d kc ks : Nat} {n : Nat} {S : rk_Sh} {J : rk_J} {R : rk_R} {Q : rk_Q}  {r : Int32 × rk_I} (hd : 5 ≤ d) (hM : rk_LM S R) (he : ∀ (w0 : Int32) (I9 : rk_I), r = (w0, I9) → AW G l yX10_keeps cX10_keeps 4 none d kc ks 33 [some (.ref 31), none, none, some (.int w0)] [] n S I9 J R Q) :
    ∀ (m9 : Nat) (s3 : Int32) (I : rk_I), rk_loop (fun a9 => f_X10_keeps_l9 a9.2 a9.1) m9 (s3, I) = some r → AW G l yX10_keeps cX10_keeps 4 none d kc ks 9 [some (.ref 31), none, none, some (.int s3)] [] n S I J R Q := by
  intro m9
  induction m9 with
  | zero => intro s3 I hf; cases hf
  | succ m9 ih =>
    intro s3 I hf 
    obtain ⟨r9, hf, hr⟩ := rk_loop_s hf
    exact b_X10_keeps_l9 hd hM hf (fun _ _ h9 => by subst h9; exact ih _ _ hr) (fun _ _ h9 => by subst h9; exact he _ _ hr.symm)
noncomputable def f_X10_keeps (I : rk_I) (a1 : Int32) (a2 : Int32) : Option (rk_I) :=
(f_X10_lays I a1 a2 1).bind fun I1 =>
rk_b2 (rk_while (fun a9 => f_X10_keeps_l9 a9.2 a9.1) (0, I1)) fun x1 I2 =>
some I2
theorem b_X10_keeps {G : rk_G} {l : Launch} {d kc ks : Nat} {n : Nat} {S : rk_Sh} {I : rk_I} {J : rk_J} {R : rk_R} {Q : rk_Q} {a1 : Int32} {a2 : Int32} {r : rk_I} (hd : 5 ≤ d) (hM : rk_LM S R) (hf : f_X10_keeps I a1 a2 = some r) (hq : ∀ (I9 : rk_I), r = I9 → Q (none) n S I9 J R) :
    AW G l yX10_keeps cX10_keeps 4 none d kc ks 0 [some (.ref 31), some (.int a1), some (.int a2), none] [] n S I J R Q := by
  unfold f_X10_keeps at hf
  refine AW_aload_n0 dX10_keeps_0 ?_
  refine AW_iload_n1 dX10_keeps_1 ?_
  refine AW_iload_n2 dX10_keeps_2 ?_
  refine AW_iconst (v := 1) dX10_keeps_3 (by decide) ?_
  replace hf := rk_bd hf
  obtain ⟨I1, e1, hf⟩ := hf
  refine AW_iV3vz (w_X10_lays (d := 4) (Nat.le_refl _) hM e1) dX10_keeps_4 kl_X10_164 (hM.1 31 (by decide) (by decide)) rfl (Nat.le_trans (by decide) hd) (by decide) (Nat.le_of_ble_eq_true rfl) (fun _ => ?_)
  refine AW_iconst (v := 0) dX10_keeps_7 (by decide) ?_
  refine AW_istore_n3 dX10_keeps_8 (by decide) rfl ?_
  refine AW_sb (rk_sbs (rk_sbn (rk_sbn (rk_sbs rk_sb0)))) ?_
  replace hf := rk_bd2 hf
  obtain ⟨x1, I2, e2, hf⟩ := hf
  obtain ⟨m1, e2⟩ := rk_while_sp e2
  refine L_X10_keeps_w9 (Nat.le_trans (by decide) hd) hM ?_ m1 _ _ e2
  intro x1 I2 h9
  cases h9
  exact AW_vret dX10_keeps_33 rfl (hq _ (Option.some.inj hf).symm)
theorem w_X10_keeps {G : rk_G} {l : Launch} {d : Nat} {n : Nat} {S : rk_Sh} {I : rk_I} {J : rk_J} {R : rk_R} {a1 : Int32} {a2 : Int32} {I8 : rk_I} (hd : 5 ≤ d) (hM : rk_LM S R) (hf : f_X10_keeps I a1 a2 = some I8) :
    CW G l yX10_keeps cX10_keeps 4 none d 0 0 [.ref 31, .int a1, .int a2] n S I J R (rk_qv n S I8 J R True) :=
  CW.of (by decide +kernel) (Nat.le_of_ble_eq_true rfl) (rk_sbs (rk_sbs (rk_sbs (rk_sbe rk_sb0)))) (b_X10_keeps hd hM hf (fun I9 h9 => by cases h9; exact ⟨rfl, rfl, rfl, rfl, rfl, rfl, trivial⟩))
noncomputable def f_X10_change_l12 (I : rk_I) (s3 : Int32) (s4 : Int32) : Option ((Int32 × Int32) ⊕ (Int32 × Int32)) :=
if 10 ≤ s4 then (
some (.inr (s3, s4))) else (
(rk_rd I 47 10 s4).bind fun x1 =>
(rk_rd I 49 10 s4).bind fun x2 =>
if x2 ≤ x1 then (
(rk_rd I 47 10 s4).bind fun x3 =>
(rk_rd I 49 10 s4).bind fun x4 =>
some (.inl ((s3 + (x3 - x4)), (s4 + 1)))) else (
(rk_rd I 49 10 s4).bind fun x5 =>
(rk_rd I 47 10 s4).bind fun x6 =>
some (.inl ((s3 + (x5 - x6)), (s4 + 1)))))
theorem b_X10_change_l12 {G : rk_G} {l : Launch} {d kc ks : Nat} {n : Nat} {S : rk_Sh} {I : rk_I} {J : rk_J} {R : rk_R} {Q : rk_Q} {s3 : Int32} {s4 : Int32} {r : (Int32 × Int32) ⊕ (Int32 × Int32)} (hd : 5 ≤ d) (hM : rk_LM S R) (hf : f_X10_change_l12 I s3 s4 = some r) (hc : ∀ (w0 : Int32) (w1 : Int32), r = .inl (w0, w1) → AW G l yX10_change cX10_change 5 (some .int) d kc ks 12 [some (.ref 31), none, none, some (.int w0), some (.int w1)] [] n S I J R Q) (he : ∀ (w0 : Int32) (w1 : Int32), r = .inr (w0, w1) → AW G l yX10_change cX10_change 5 (some .int) d kc ks 78 [some (.ref 31), none, none, some (.int w0), some (.int w1)] [] n S I J R Q) :
    AW G l yX10_change cX10_change 5 (some .int) d kc ks 12 [some (.ref 31), none, none, some (.int s3), some (.int s4)] [] n S I J R Q := by
  unfold f_X10_change_l12 at hf
  refine AW_iload_4 dX10_change_12 ?_
  refine AW_bipush (v := 10) dX10_change_14 (by decide) ?_
  refine AW_icmp_ge 78 dX10_change_16 (by decide) (fun h1 => ?_) (fun h1 => ?_)
  · replace hf := rk_it hf h1
    refine AW_sb (rk_sbs (rk_sbn (rk_sbn (rk_sbs (rk_sbs rk_sb0))))) ?_
    exact he _ _ (Option.some.inj hf).symm
  · replace hf := rk_if hf h1
    refine AW_iload_n3 dX10_change_19 ?_
    refine AW_aload_n0 dX10_change_20 ?_
    refine AW_getR dX10_change_21 kf_X10_59 rfl (hM.1 31 (by decide) (by decide)) (by decide) (hM.2 31 21 47 rfl) ?_
    refine AW_iload_4 dX10_change_24 ?_
    replace hf := rk_bd hf
    obtain ⟨x1, e1, hf⟩ := hf
    refine AW_rd dX10_change_26 (hM.1 47 (by decide) (by decide)) e1 ?_
    refine AW_aload_n0 dX10_change_27 ?_
    refine AW_getR dX10_change_28 kf_X10_65 rfl (hM.1 31 (by decide) (by decide)) (by decide) (hM.2 31 34 49 rfl) ?_
    refine AW_iload_4 dX10_change_31 ?_
    replace hf := rk_bd hf
    obtain ⟨x2, e2, hf⟩ := hf
    refine AW_rd dX10_change_33 (hM.1 49 (by decide) (by decide)) e2 ?_
    refine AW_icmp_ge 55 dX10_change_34 (by decide) (fun h2 => ?_) (fun h2 => ?_)
    · replace hf := rk_it hf h2
      refine AW_aload_n0 dX10_change_55 ?_
      refine AW_getR dX10_change_56 kf_X10_59 rfl (hM.1 31 (by decide) (by decide)) (by decide) (hM.2 31 21 47 rfl) ?_
      refine AW_iload_4 dX10_change_59 ?_
      replace hf := rk_bd hf
      obtain ⟨x3, e3, hf⟩ := hf
      refine AW_rd dX10_change_61 (hM.1 47 (by decide) (by decide)) e3 ?_
      refine AW_aload_n0 dX10_change_62 ?_
      refine AW_getR dX10_change_63 kf_X10_65 rfl (hM.1 31 (by decide) (by decide)) (by decide) (hM.2 31 34 49 rfl) ?_
      refine AW_iload_4 dX10_change_66 ?_
      replace hf := rk_bd hf
      obtain ⟨x4, e4, hf⟩ := hf
      refine AW_rd dX10_change_68 (hM.1 49 (by decide) (by decide)) e4 ?_
      refine AW_isub dX10_change_69 ?_
      refine AW_iadd dX10_change_70 ?_
      refine AW_istore_n3 dX10_change_71 (by decide) rfl ?_
      refine AW_iinc_4 (v := 1) dX10_change_72 (by decide) (by decide) rfl ?_
      refine AW_goto 12 dX10_change_75 (by decide) ?_
      refine AW_sb (rk_sbs (rk_sbn (rk_sbn (rk_sbs (rk_sbs rk_sb0))))) ?_
      exact hc _ _ (Option.some.inj hf).symm
    · replace hf := rk_if hf h2
      refine AW_aload_n0 dX10_change_37 ?_
      refine AW_getR dX10_change_38 kf_X10_65 rfl (hM.1 31 (by decide) (by decide)) (by decide) (hM.2 31 34 49 rfl) ?_
      refine AW_iload_4 dX10_change_41 ?_
      replace hf := rk_bd hf
      obtain ⟨x5, e5, hf⟩ := hf
      refine AW_rd dX10_change_43 (hM.1 49 (by decide) (by decide)) e5 ?_
      refine AW_aload_n0 dX10_change_44 ?_
      refine AW_getR dX10_change_45 kf_X10_59 rfl (hM.1 31 (by decide) (by decide)) (by decide) (hM.2 31 21 47 rfl) ?_
      refine AW_iload_4 dX10_change_48 ?_
      replace hf := rk_bd hf
      obtain ⟨x6, e6, hf⟩ := hf
      refine AW_rd dX10_change_50 (hM.1 47 (by decide) (by decide)) e6 ?_
      refine AW_isub dX10_change_51 ?_
      refine AW_goto 70 dX10_change_52 (by decide) ?_
      refine AW_iadd dX10_change_70 ?_
      refine AW_istore_n3 dX10_change_71 (by decide) rfl ?_
      refine AW_iinc_4 (v := 1) dX10_change_72 (by decide) (by decide) rfl ?_
      refine AW_goto 12 dX10_change_75 (by decide) ?_
      refine AW_sb (rk_sbs (rk_sbn (rk_sbn (rk_sbs (rk_sbs rk_sb0))))) ?_
      exact hc _ _ (Option.some.inj hf).symm
theorem L_X10_change_w12 {G : rk_G} {l : Launch} {d kc ks : Nat} {n : Nat} {S : rk_Sh} {I : rk_I} {J : rk_J} {R : rk_R} {Q : rk_Q}  {r : Int32 × Int32} (hd : 5 ≤ d) (hM : rk_LM S R) (he : ∀ (w0 : Int32) (w1 : Int32), r = (w0, w1) → AW G l yX10_change cX10_change 5 (some .int) d kc ks 78 [some (.ref 31), none, none, some (.int w0), some (.int w1)] [] n S I J R Q) :
    ∀ (m9 : Nat) (s3 : Int32) (s4 : Int32) , rk_loop (fun a9 => f_X10_change_l12 I a9.1 a9.2) m9 (s3, s4) = some r → AW G l yX10_change cX10_change 5 (some .int) d kc ks 12 [some (.ref 31), none, none, some (.int s3), some (.int s4)] [] n S I J R Q := by
  intro m9
  induction m9 with
  | zero => intro s3 s4 hf; cases hf
  | succ m9 ih =>
    intro s3 s4 hf 
    obtain ⟨r9, hf, hr⟩ := rk_loop_s hf
    exact b_X10_change_l12 hd hM hf (fun _ _ h9 => by subst h9; exact ih _ _ hr) (fun _ _ h9 => by subst h9; exact he _ _ hr.symm)
noncomputable def f_X10_change (I : rk_I) (a1 : Int32) (a2 : Int32) : Option (Int32 × rk_I) :=
(f_X10_lays I a1 a2 1).bind fun I1 =>
rk_b2 (rk_while (fun a9 => f_X10_change_l12 I1 a9.1 a9.2) (0, 0)) fun x1 x2 =>
some (x1, I1)
theorem b_X10_change {G : rk_G} {l : Launch} {d kc ks : Nat} {n : Nat} {S : rk_Sh} {I : rk_I} {J : rk_J} {R : rk_R} {Q : rk_Q} {a1 : Int32} {a2 : Int32} {r : Int32 × rk_I} (hd : 5 ≤ d) (hM : rk_LM S R) (hf : f_X10_change I a1 a2 = some r) (hq : ∀ (v9 : Int32) (I9 : rk_I), r = (v9, I9) → Q (some (.int v9)) n S I9 J R) :
    AW G l yX10_change cX10_change 5 (some .int) d kc ks 0 [some (.ref 31), some (.int a1), some (.int a2), none, none] [] n S I J R Q := by
  unfold f_X10_change at hf
  refine AW_aload_n0 dX10_change_0 ?_
  refine AW_iload_n1 dX10_change_1 ?_
  refine AW_iload_n2 dX10_change_2 ?_
  refine AW_iconst (v := 1) dX10_change_3 (by decide) ?_
  replace hf := rk_bd hf
  obtain ⟨I1, e1, hf⟩ := hf
  refine AW_iV3vz (w_X10_lays (d := 4) (Nat.le_refl _) hM e1) dX10_change_4 kl_X10_164 (hM.1 31 (by decide) (by decide)) rfl (Nat.le_trans (by decide) hd) (by decide) (Nat.le_of_ble_eq_true rfl) (fun _ => ?_)
  refine AW_iconst (v := 0) dX10_change_7 (by decide) ?_
  refine AW_istore_n3 dX10_change_8 (by decide) rfl ?_
  refine AW_iconst (v := 0) dX10_change_9 (by decide) ?_
  refine AW_istore_4 dX10_change_10 (by decide) rfl ?_
  refine AW_sb (rk_sbs (rk_sbn (rk_sbn (rk_sbs (rk_sbs rk_sb0))))) ?_
  replace hf := rk_bd2 hf
  obtain ⟨x1, x2, e2, hf⟩ := hf
  obtain ⟨m1, e2⟩ := rk_while_sp e2
  refine L_X10_change_w12 (Nat.le_trans (by decide) hd) hM ?_ m1 _ _ e2
  intro x1 x2 h9
  cases h9
  refine AW_iload_n3 dX10_change_78 ?_
  exact AW_iret dX10_change_79 rfl (hq _ _ (Option.some.inj hf).symm)
theorem w_X10_change {G : rk_G} {l : Launch} {d : Nat} {n : Nat} {S : rk_Sh} {I : rk_I} {J : rk_J} {R : rk_R} {a1 : Int32} {a2 : Int32} {v8 : Int32} {I8 : rk_I} (hd : 5 ≤ d) (hM : rk_LM S R) (hf : f_X10_change I a1 a2 = some (v8, I8)) :
    CW G l yX10_change cX10_change 5 (some .int) d 0 0 [.ref 31, .int a1, .int a2] n S I J R (rk_qi v8 n S I8 J R True) :=
  CW.of (by decide +kernel) (Nat.le_of_ble_eq_true rfl) (rk_sbs (rk_sbs (rk_sbs (rk_sbe (rk_sbe rk_sb0))))) (b_X10_change hd hM hf (fun v9 I9 h9 => by cases h9; exact ⟨rfl, rfl, rfl, rfl, rfl, rfl, trivial⟩))
noncomputable def f_X10_hangs_l43 (I : rk_I) (u1 : Int32) (u2 : Int32) (u3 : Int32) (s4 : Int32) (s5 : Int32) (s6 : Int32) : Option ((Int32 × Int32 × Int32 × rk_I) ⊕ (Int32 × Int32 × Int32 × rk_I)) :=
if 3 ≤ s6 then (
some (.inr (s4, s5, s6, I))) else (
(rk_rd I 37 12 ((3 * u1) + s6)).bind fun x1 =>
(rk_wr I 37 12 ((3 * u1) + s6) (-1)).bind fun I1 =>
rk_b2 (f_X10_change I1 u1 u2) fun x2 I2 =>
(rk_wr I2 37 12 ((3 * u1) + s6) x1).bind fun I3 =>
if s5 < x2 then (
some (.inl (s6, x2, (s6 + 1), I3))) else (
some (.inl (s4, s5, (s6 + 1), I3))))
theorem b_X10_hangs_l43 {G : rk_G} {l : Launch} {d kc ks : Nat} {n : Nat} {S : rk_Sh} {I : rk_I} {J : rk_J} {R : rk_R} {Q : rk_Q} {u1 : Int32} {u2 : Int32} {u3 : Int32} {s4 : Int32} {s5 : Int32} {s6 : Int32} {r : (Int32 × Int32 × Int32 × rk_I) ⊕ (Int32 × Int32 × Int32 × rk_I)} (hd : 6 ≤ d) (hM : rk_LM S R) (hf : f_X10_hangs_l43 I u1 u2 u3 s4 s5 s6 = some r) (hc : ∀ (w0 : Int32) (w1 : Int32) (w2 : Int32) (I9 : rk_I), r = .inl (w0, w1, w2, I9) → AW G l yX10_hangs cX10_hangs 9 (some .int) d kc ks 43 [some (.ref 31), some (.int u1), some (.int u2), some (.int u3), some (.int w0), some (.int w1), some (.int w2), none, none] [] n S I9 J R Q) (he : ∀ (w0 : Int32) (w1 : Int32) (w2 : Int32) (I9 : rk_I), r = .inr (w0, w1, w2, I9) → AW G l yX10_hangs cX10_hangs 9 (some .int) d kc ks 119 [some (.ref 31), some (.int u1), some (.int u2), some (.int u3), some (.int w0), some (.int w1), some (.int w2), none, none] [] n S I9 J R Q) :
    AW G l yX10_hangs cX10_hangs 9 (some .int) d kc ks 43 [some (.ref 31), some (.int u1), some (.int u2), some (.int u3), some (.int s4), some (.int s5), some (.int s6), none, none] [] n S I J R Q := by
  unfold f_X10_hangs_l43 at hf
  refine AW_iload_6 dX10_hangs_43 ?_
  refine AW_iconst (v := 3) dX10_hangs_45 (by decide) ?_
  refine AW_icmp_ge 119 dX10_hangs_46 (by decide) (fun h1 => ?_) (fun h1 => ?_)
  · replace hf := rk_it hf h1
    refine AW_sb (rk_sbs (rk_sbs (rk_sbs (rk_sbs (rk_sbs (rk_sbs (rk_sbs (rk_sbn (rk_sbn rk_sb0))))))))) ?_
    exact he _ _ _ _ (Option.some.inj hf).symm
  · replace hf := rk_if hf h1
    refine AW_aload_n0 dX10_hangs_49 ?_
    refine AW_getR dX10_hangs_50 kf_X10_29 rfl (hM.1 31 (by decide) (by decide)) (by decide) (hM.2 31 9 37 rfl) ?_
    refine AW_iconst (v := 3) dX10_hangs_53 (by decide) ?_
    refine AW_iload_n1 dX10_hangs_54 ?_
    refine AW_imul dX10_hangs_55 ?_
    refine AW_iload_6 dX10_hangs_56 ?_
    refine AW_iadd dX10_hangs_58 ?_
    replace hf := rk_bd hf
    obtain ⟨x1, e1, hf⟩ := hf
    refine AW_rd dX10_hangs_59 (hM.1 37 (by decide) (by decide)) e1 ?_
    refine AW_istore_7 dX10_hangs_60 (by decide) rfl ?_
    refine AW_aload_n0 dX10_hangs_62 ?_
    refine AW_getR dX10_hangs_63 kf_X10_29 rfl (hM.1 31 (by decide) (by decide)) (by decide) (hM.2 31 9 37 rfl) ?_
    refine AW_iconst (v := 3) dX10_hangs_66 (by decide) ?_
    refine AW_iload_n1 dX10_hangs_67 ?_
    refine AW_imul dX10_hangs_68 ?_
    refine AW_iload_6 dX10_hangs_69 ?_
    refine AW_iadd dX10_hangs_71 ?_
    refine AW_iconst (v := (-1)) dX10_hangs_72 (by decide) ?_
    replace hf := rk_bd hf
    obtain ⟨I1, e2, hf⟩ := hf
    refine AW_wr dX10_hangs_73 (hM.1 37 (by decide) (by decide)) e2 ?_
    refine AW_aload_n0 dX10_hangs_74 ?_
    refine AW_iload_n1 dX10_hangs_75 ?_
    refine AW_iload_n2 dX10_hangs_76 ?_
    replace hf := rk_bd2 hf
    obtain ⟨x2, I2, e3, hf⟩ := hf
    refine AW_iV2iz (w_X10_change (d := 5) (Nat.le_refl _) hM e3) dX10_hangs_77 kl_X10_351 (hM.1 31 (by decide) (by decide)) rfl (Nat.le_trans (by decide) hd) (by decide) (Nat.le_of_ble_eq_true rfl) (fun _ => ?_)
    refine AW_istore_8 dX10_hangs_80 (by decide) rfl ?_
    refine AW_aload_n0 dX10_hangs_82 ?_
    refine AW_getR dX10_hangs_83 kf_X10_29 rfl (hM.1 31 (by decide) (by decide)) (by decide) (hM.2 31 9 37 rfl) ?_
    refine AW_iconst (v := 3) dX10_hangs_86 (by decide) ?_
    refine AW_iload_n1 dX10_hangs_87 ?_
    refine AW_imul dX10_hangs_88 ?_
    refine AW_iload_6 dX10_hangs_89 ?_
    refine AW_iadd dX10_hangs_91 ?_
    refine AW_iload_7 dX10_hangs_92 ?_
    replace hf := rk_bd hf
    obtain ⟨I3, e4, hf⟩ := hf
    refine AW_wr dX10_hangs_94 (hM.1 37 (by decide) (by decide)) e4 ?_
    refine AW_iload_8 dX10_hangs_95 ?_
    refine AW_iload_5 dX10_hangs_97 ?_
    refine AW_icmp_gt 105 dX10_hangs_99 (by decide) (fun h2 => ?_) (fun h2 => ?_)
    · replace hf := rk_it hf h2
      refine AW_iload_8 dX10_hangs_105 ?_
      refine AW_istore_5 dX10_hangs_107 (by decide) rfl ?_
      refine AW_iload_6 dX10_hangs_109 ?_
      refine AW_istore_4 dX10_hangs_111 (by decide) rfl ?_
      refine AW_iinc_6 (v := 1) dX10_hangs_113 (by decide) (by decide) rfl ?_
      refine AW_goto 43 dX10_hangs_116 (by decide) ?_
      refine AW_sb (rk_sbs (rk_sbs (rk_sbs (rk_sbs (rk_sbs (rk_sbs (rk_sbs (rk_sbn (rk_sbn rk_sb0))))))))) ?_
      exact hc _ _ _ _ (Option.some.inj hf).symm
    · replace hf := rk_if hf h2
      refine AW_goto 113 dX10_hangs_102 (by decide) ?_
      refine AW_iinc_6 (v := 1) dX10_hangs_113 (by decide) (by decide) rfl ?_
      refine AW_goto 43 dX10_hangs_116 (by decide) ?_
      refine AW_sb (rk_sbs (rk_sbs (rk_sbs (rk_sbs (rk_sbs (rk_sbs (rk_sbs (rk_sbn (rk_sbn rk_sb0))))))))) ?_
      exact hc _ _ _ _ (Option.some.inj hf).symm
theorem L_X10_hangs_w43 {G : rk_G} {l : Launch} {d kc ks : Nat} {n : Nat} {S : rk_Sh} {J : rk_J} {R : rk_R} {Q : rk_Q} {u1 : Int32} {u2 : Int32} {u3 : Int32} {r : Int32 × Int32 × Int32 × rk_I} (hd : 6 ≤ d) (hM : rk_LM S R) (he : ∀ (w0 : Int32) (w1 : Int32) (w2 : Int32) (I9 : rk_I), r = (w0, w1, w2, I9) → AW G l yX10_hangs cX10_hangs 9 (some .int) d kc ks 119 [some (.ref 31), some (.int u1), some (.int u2), some (.int u3), some (.int w0), some (.int w1), some (.int w2), none, none] [] n S I9 J R Q) :
    ∀ (m9 : Nat) (s4 : Int32) (s5 : Int32) (s6 : Int32) (I : rk_I), rk_loop (fun a9 => f_X10_hangs_l43 a9.2.2.2 u1 u2 u3 a9.1 a9.2.1 a9.2.2.1) m9 (s4, s5, s6, I) = some r → AW G l yX10_hangs cX10_hangs 9 (some .int) d kc ks 43 [some (.ref 31), some (.int u1), some (.int u2), some (.int u3), some (.int s4), some (.int s5), some (.int s6), none, none] [] n S I J R Q := by
  intro m9
  induction m9 with
  | zero => intro s4 s5 s6 I hf; cases hf
  | succ m9 ih =>
    intro s4 s5 s6 I hf 
    obtain ⟨r9, hf, hr⟩ := rk_loop_s hf
    exact b_X10_hangs_l43 hd hM hf (fun _ _ _ _ h9 => by subst h9; exact ih _ _ _ _ hr) (fun _ _ _ _ h9 => by subst h9; exact he _ _ _ _ hr.symm)
noncomputable def f_X10_hangs_l122 (I : rk_I) (u1 : Int32) (u2 : Int32) (u3 : Int32) (s4 : Int32) (s5 : Int32) (s6 : Int32) : Option ((Int32 × Int32 × Int32 × rk_I) ⊕ (Int32 × Int32 × Int32 × rk_I)) :=
if (I 31 20) ≤ s6 then (
some (.inr (s4, s5, s6, I))) else (
(rk_rd I 39 24 s6).bind fun x1 =>
if x1 = u1 then (
(rk_rd I 45 24 s6).bind fun x2 =>
(rk_wr I 45 24 s6 (-1)).bind fun I1 =>
rk_b2 (f_X10_change I1 u1 u2) fun x3 I2 =>
(rk_wr I2 45 24 s6 x2).bind fun I3 =>
if s5 < x3 then (
some (.inl ((10 + s6), x3, (s6 + 1), I3))) else (
some (.inl (s4, s5, (s6 + 1), I3)))) else (
some (.inl (s4, s5, (s6 + 1), I))))
theorem b_X10_hangs_l122 {G : rk_G} {l : Launch} {d kc ks : Nat} {n : Nat} {S : rk_Sh} {I : rk_I} {J : rk_J} {R : rk_R} {Q : rk_Q} {u1 : Int32} {u2 : Int32} {u3 : Int32} {s4 : Int32} {s5 : Int32} {s6 : Int32} {r : (Int32 × Int32 × Int32 × rk_I) ⊕ (Int32 × Int32 × Int32 × rk_I)} (hd : 6 ≤ d) (hM : rk_LM S R) (hf : f_X10_hangs_l122 I u1 u2 u3 s4 s5 s6 = some r) (hc : ∀ (w0 : Int32) (w1 : Int32) (w2 : Int32) (I9 : rk_I), r = .inl (w0, w1, w2, I9) → AW G l yX10_hangs cX10_hangs 9 (some .int) d kc ks 122 [some (.ref 31), some (.int u1), some (.int u2), some (.int u3), some (.int w0), some (.int w1), some (.int w2), none, none] [] n S I9 J R Q) (he : ∀ (w0 : Int32) (w1 : Int32) (w2 : Int32) (I9 : rk_I), r = .inr (w0, w1, w2, I9) → AW G l yX10_hangs cX10_hangs 9 (some .int) d kc ks 206 [some (.ref 31), some (.int u1), some (.int u2), some (.int u3), some (.int w0), some (.int w1), some (.int w2), none, none] [] n S I9 J R Q) :
    AW G l yX10_hangs cX10_hangs 9 (some .int) d kc ks 122 [some (.ref 31), some (.int u1), some (.int u2), some (.int u3), some (.int s4), some (.int s5), some (.int s6), none, none] [] n S I J R Q := by
  unfold f_X10_hangs_l122 at hf
  refine AW_iload_6 dX10_hangs_122 ?_
  refine AW_aload_n0 dX10_hangs_124 ?_
  refine AW_getI dX10_hangs_125 kf_X10_118 rfl (hM.1 31 (by decide) (by decide)) (by decide) ?_
  refine AW_icmp_ge 206 dX10_hangs_128 (by decide) (fun h1 => ?_) (fun h1 => ?_)
  · replace hf := rk_it hf h1
    refine AW_sb (rk_sbs (rk_sbs (rk_sbs (rk_sbs (rk_sbs (rk_sbs (rk_sbs (rk_sbn (rk_sbn rk_sb0))))))))) ?_
    exact he _ _ _ _ (Option.some.inj hf).symm
  · replace hf := rk_if hf h1
    refine AW_aload_n0 dX10_hangs_131 ?_
    refine AW_getR dX10_hangs_132 kf_X10_35 rfl (hM.1 31 (by decide) (by decide)) (by decide) (hM.2 31 12 39 rfl) ?_
    refine AW_iload_6 dX10_hangs_135 ?_
    replace hf := rk_bd hf
    obtain ⟨x1, e1, hf⟩ := hf
    refine AW_rd dX10_hangs_137 (hM.1 39 (by decide) (by decide)) e1 ?_
    refine AW_iload_n1 dX10_hangs_138 ?_
    refine AW_icmp_eq 145 dX10_hangs_139 (by decide) (fun h2 => ?_) (fun h2 => ?_)
    · replace hf := rk_it hf h2
      refine AW_aload_n0 dX10_hangs_145 ?_
      refine AW_getR dX10_hangs_146 kf_X10_53 rfl (hM.1 31 (by decide) (by decide)) (by decide) (hM.2 31 18 45 rfl) ?_
      refine AW_iload_6 dX10_hangs_149 ?_
      replace hf := rk_bd hf
      obtain ⟨x2, e2, hf⟩ := hf
      refine AW_rd dX10_hangs_151 (hM.1 45 (by decide) (by decide)) e2 ?_
      refine AW_istore_7 dX10_hangs_152 (by decide) rfl ?_
      refine AW_aload_n0 dX10_hangs_154 ?_
      refine AW_getR dX10_hangs_155 kf_X10_53 rfl (hM.1 31 (by decide) (by decide)) (by decide) (hM.2 31 18 45 rfl) ?_
      refine AW_iload_6 dX10_hangs_158 ?_
      refine AW_iconst (v := (-1)) dX10_hangs_160 (by decide) ?_
      replace hf := rk_bd hf
      obtain ⟨I1, e3, hf⟩ := hf
      refine AW_wr dX10_hangs_161 (hM.1 45 (by decide) (by decide)) e3 ?_
      refine AW_aload_n0 dX10_hangs_162 ?_
      refine AW_iload_n1 dX10_hangs_163 ?_
      refine AW_iload_n2 dX10_hangs_164 ?_
      replace hf := rk_bd2 hf
      obtain ⟨x3, I2, e4, hf⟩ := hf
      refine AW_iV2iz (w_X10_change (d := 5) (Nat.le_refl _) hM e4) dX10_hangs_165 kl_X10_351 (hM.1 31 (by decide) (by decide)) rfl (Nat.le_trans (by decide) hd) (by decide) (Nat.le_of_ble_eq_true rfl) (fun _ => ?_)
      refine AW_istore_8 dX10_hangs_168 (by decide) rfl ?_
      refine AW_aload_n0 dX10_hangs_170 ?_
      refine AW_getR dX10_hangs_171 kf_X10_53 rfl (hM.1 31 (by decide) (by decide)) (by decide) (hM.2 31 18 45 rfl) ?_
      refine AW_iload_6 dX10_hangs_174 ?_
      refine AW_iload_7 dX10_hangs_176 ?_
      replace hf := rk_bd hf
      obtain ⟨I3, e5, hf⟩ := hf
      refine AW_wr dX10_hangs_178 (hM.1 45 (by decide) (by decide)) e5 ?_
      refine AW_iload_8 dX10_hangs_179 ?_
      refine AW_iload_5 dX10_hangs_181 ?_
      refine AW_icmp_gt 189 dX10_hangs_183 (by decide) (fun h3 => ?_) (fun h3 => ?_)
      · replace hf := rk_it hf h3
        refine AW_iload_8 dX10_hangs_189 ?_
        refine AW_istore_5 dX10_hangs_191 (by decide) rfl ?_
        refine AW_bipush (v := 10) dX10_hangs_193 (by decide) ?_
        refine AW_iload_6 dX10_hangs_195 ?_
        refine AW_iadd dX10_hangs_197 ?_
        refine AW_istore_4 dX10_hangs_198 (by decide) rfl ?_
        refine AW_iinc_6 (v := 1) dX10_hangs_200 (by decide) (by decide) rfl ?_
        refine AW_goto 122 dX10_hangs_203 (by decide) ?_
        refine AW_sb (rk_sbs (rk_sbs (rk_sbs (rk_sbs (rk_sbs (rk_sbs (rk_sbs (rk_sbn (rk_sbn rk_sb0))))))))) ?_
        exact hc _ _ _ _ (Option.some.inj hf).symm
      · replace hf := rk_if hf h3
        refine AW_goto 200 dX10_hangs_186 (by decide) ?_
        refine AW_iinc_6 (v := 1) dX10_hangs_200 (by decide) (by decide) rfl ?_
        refine AW_goto 122 dX10_hangs_203 (by decide) ?_
        refine AW_sb (rk_sbs (rk_sbs (rk_sbs (rk_sbs (rk_sbs (rk_sbs (rk_sbs (rk_sbn (rk_sbn rk_sb0))))))))) ?_
        exact hc _ _ _ _ (Option.some.inj hf).symm
    · replace hf := rk_if hf h2
      refine AW_goto 200 dX10_hangs_142 (by decide) ?_
      refine AW_iinc_6 (v := 1) dX10_hangs_200 (by decide) (by decide) rfl ?_
      refine AW_goto 122 dX10_hangs_203 (by decide) ?_
      refine AW_sb (rk_sbs (rk_sbs (rk_sbs (rk_sbs (rk_sbs (rk_sbs (rk_sbs (rk_sbn (rk_sbn rk_sb0))))))))) ?_
      exact hc _ _ _ _ (Option.some.inj hf).symm
theorem L_X10_hangs_w122 {G : rk_G} {l : Launch} {d kc ks : Nat} {n : Nat} {S : rk_Sh} {J : rk_J} {R : rk_R} {Q : rk_Q} {u1 : Int32} {u2 : Int32} {u3 : Int32} {r : Int32 × Int32 × Int32 × rk_I} (hd : 6 ≤ d) (hM : rk_LM S R) (he : ∀ (w0 : Int32) (w1 : Int32) (w2 : Int32) (I9 : rk_I), r = (w0, w1, w2, I9) → AW G l yX10_hangs cX10_hangs 9 (some .int) d kc ks 206 [some (.ref 31), some (.int u1), some (.int u2), some (.int u3), some (.int w0), some (.int w1), some (.int w2), none, none] [] n S I9 J R Q) :
    ∀ (m9 : Nat) (s4 : Int32) (s5 : Int32) (s6 : Int32) (I : rk_I), rk_loop (fun a9 => f_X10_hangs_l122 a9.2.2.2 u1 u2 u3 a9.1 a9.2.1 a9.2.2.1) m9 (s4, s5, s6, I) = some r → AW G l yX10_hangs cX10_hangs 9 (some .int) d kc ks 122 [some (.ref 31), some (.int u1), some (.int u2), some (.int u3), some (.int s4), some (.int s5), some (.int s6), none, none] [] n S I J R Q := by
  intro m9
  induction m9 with
  | zero => intro s4 s5 s6 I hf; cases hf
  | succ m9 ih =>
    intro s4 s5 s6 I hf 
    obtain ⟨r9, hf, hr⟩ := rk_loop_s hf
    exact b_X10_hangs_l122 hd hM hf (fun _ _ _ _ h9 => by subst h9; exact ih _ _ _ _ hr) (fun _ _ _ _ h9 => by subst h9; exact he _ _ _ _ hr.symm)
noncomputable def f_X10_hangs (I : rk_I) (a1 : Int32) (a2 : Int32) (a3 : Int32) : Option (Int32 × rk_I) :=
(f_X10_isCargo I a1).bind fun x1 =>
if x1 = 0 then (
some ((-2), I)) else (
(f_X10_isHour a2).bind fun x2 =>
if x2 = 0 then (
some ((-2), I)) else (
(f_X10_in a3.toInt64 0 1).bind fun x3 =>
if x3 = 0 then (
some ((-2), I)) else (
(f_X10_keeps I a1 a2).bind fun I1 =>
rk_b4 (rk_while (fun a9 => f_X10_hangs_l43 a9.2.2.2 a1 a2 a3 a9.1 a9.2.1 a9.2.2.1) ((-1), 0, 0, I1)) fun x4 x5 x6 I2 =>
rk_b4 (rk_while (fun a9 => f_X10_hangs_l122 a9.2.2.2 a1 a2 a3 a9.1 a9.2.1 a9.2.2.1) (x4, x5, 0, I2)) fun x7 x8 x9 I3 =>
if x7 = (-1) then (
some (x7, I3)) else (
if a3 = 0 then (
some (x7, I3)) else (
some (x8, I3))))))
theorem b_X10_hangs {G : rk_G} {l : Launch} {d kc ks : Nat} {n : Nat} {S : rk_Sh} {I : rk_I} {J : rk_J} {R : rk_R} {Q : rk_Q} {a1 : Int32} {a2 : Int32} {a3 : Int32} {r : Int32 × rk_I} (hd : 6 ≤ d) (hM : rk_LM S R) (hf : f_X10_hangs I a1 a2 a3 = some r) (hq : ∀ (v9 : Int32) (I9 : rk_I), r = (v9, I9) → Q (some (.int v9)) n S I9 J R) :
    AW G l yX10_hangs cX10_hangs 9 (some .int) d kc ks 0 [some (.ref 31), some (.int a1), some (.int a2), some (.int a3), none, none, none, none, none] [] n S I J R Q := by
  unfold f_X10_hangs at hf
  refine AW_aload_n0 dX10_hangs_0 ?_
  refine AW_iload_n1 dX10_hangs_1 ?_
  replace hf := rk_bd hf
  obtain ⟨x1, e1, hf⟩ := hf
  refine AW_iV1iz (w_X10_isCargo (d := 1) (Nat.le_refl _) hM e1) dX10_hangs_2 kl_X10_129 (hM.1 31 (by decide) (by decide)) rfl (Nat.le_trans (by decide) hd) (by decide) (Nat.le_of_ble_eq_true rfl) (fun _ => ?_)
  refine AW_if_eq 25 dX10_hangs_5 (by decide) (fun h1 => ?_) (fun h1 => ?_)
  · replace hf := rk_it hf h1
    refine AW_bipush (v := (-2)) dX10_hangs_25 (by decide) ?_
    exact AW_iret dX10_hangs_27 rfl (hq _ _ (Option.some.inj hf).symm)
  · replace hf := rk_if hf h1
    refine AW_iload_n2 dX10_hangs_8 ?_
    replace hf := rk_bd hf
    obtain ⟨x2, e2, hf⟩ := hf
    refine AW_iS1iz (w_X10_isHour (d := 1) (Nat.le_refl _) e2) dX10_hangs_9 kl_X10_138 (Nat.le_trans (by decide) hd) (by decide) (Nat.le_of_ble_eq_true rfl) (fun _ => ?_)
    refine AW_if_eq 25 dX10_hangs_12 (by decide) (fun h2 => ?_) (fun h2 => ?_)
    · replace hf := rk_it hf h2
      refine AW_bipush (v := (-2)) dX10_hangs_25 (by decide) ?_
      exact AW_iret dX10_hangs_27 rfl (hq _ _ (Option.some.inj hf).symm)
    · replace hf := rk_if hf h2
      refine AW_iload_n3 dX10_hangs_15 ?_
      refine AW_i2l dX10_hangs_16 ?_
      refine AW_lconst (v := 0) dX10_hangs_17 (by decide) ?_
      refine AW_lconst (v := 1) dX10_hangs_18 (by decide) ?_
      replace hf := rk_bd hf
      obtain ⟨x3, e3, hf⟩ := hf
      refine AW_iS3iz (w_X10_in (d := 0) e3) dX10_hangs_19 kl_X10_114 (Nat.le_trans (by decide) hd) (by decide) (Nat.le_of_ble_eq_true rfl) (fun _ => ?_)
      refine AW_if_ne 28 dX10_hangs_22 (by decide) (fun h3 => ?_) (fun h3 => ?_)
      · replace hf := rk_if hf h3
        refine AW_aload_n0 dX10_hangs_28 ?_
        refine AW_iload_n1 dX10_hangs_29 ?_
        refine AW_iload_n2 dX10_hangs_30 ?_
        replace hf := rk_bd hf
        obtain ⟨I1, e4, hf⟩ := hf
        refine AW_iV2vz (w_X10_keeps (d := 5) (Nat.le_refl _) hM e4) dX10_hangs_31 kl_X10_347 (hM.1 31 (by decide) (by decide)) rfl (Nat.le_trans (by decide) hd) (by decide) (Nat.le_of_ble_eq_true rfl) (fun _ => ?_)
        refine AW_iconst (v := (-1)) dX10_hangs_34 (by decide) ?_
        refine AW_istore_4 dX10_hangs_35 (by decide) rfl ?_
        refine AW_iconst (v := 0) dX10_hangs_37 (by decide) ?_
        refine AW_istore_5 dX10_hangs_38 (by decide) rfl ?_
        refine AW_iconst (v := 0) dX10_hangs_40 (by decide) ?_
        refine AW_istore_6 dX10_hangs_41 (by decide) rfl ?_
        refine AW_sb (rk_sbs (rk_sbs (rk_sbs (rk_sbs (rk_sbs (rk_sbs (rk_sbs (rk_sbn (rk_sbn rk_sb0))))))))) ?_
        replace hf := rk_bd4 hf
        obtain ⟨x4, x5, x6, I2, e5, hf⟩ := hf
        obtain ⟨m1, e5⟩ := rk_while_sp e5
        refine L_X10_hangs_w43 (Nat.le_trans (by decide) hd) hM ?_ m1 _ _ _ _ e5
        intro x4 x5 x6 I2 h9
        cases h9
        refine AW_iconst (v := 0) dX10_hangs_119 (by decide) ?_
        refine AW_istore_6 dX10_hangs_120 (by decide) rfl ?_
        refine AW_sb (rk_sbs (rk_sbs (rk_sbs (rk_sbs (rk_sbs (rk_sbs (rk_sbs (rk_sbn (rk_sbn rk_sb0))))))))) ?_
        replace hf := rk_bd4 hf
        obtain ⟨x7, x8, x9, I3, e6, hf⟩ := hf
        obtain ⟨m2, e6⟩ := rk_while_sp e6
        refine L_X10_hangs_w122 (Nat.le_trans (by decide) hd) hM ?_ m2 _ _ _ _ e6
        intro x7 x8 x9 I3 h9
        cases h9
        refine AW_iload_4 dX10_hangs_206 ?_
        refine AW_iconst (v := (-1)) dX10_hangs_208 (by decide) ?_
        refine AW_icmp_eq 216 dX10_hangs_209 (by decide) (fun h4 => ?_) (fun h4 => ?_)
        · replace hf := rk_it hf h4
          refine AW_iload_4 dX10_hangs_216 ?_
          refine AW_goto 223 dX10_hangs_218 (by decide) ?_
          exact AW_iret dX10_hangs_223 rfl (hq _ _ (Option.some.inj hf).symm)
        · replace hf := rk_if hf h4
          refine AW_iload_n3 dX10_hangs_212 ?_
          refine AW_if_ne 221 dX10_hangs_213 (by decide) (fun h5 => ?_) (fun h5 => ?_)
          · replace hf := rk_if hf h5
            refine AW_iload_5 dX10_hangs_221 ?_
            exact AW_iret dX10_hangs_223 rfl (hq _ _ (Option.some.inj hf).symm)
          · replace hf := rk_it hf h5
            refine AW_iload_4 dX10_hangs_216 ?_
            refine AW_goto 223 dX10_hangs_218 (by decide) ?_
            exact AW_iret dX10_hangs_223 rfl (hq _ _ (Option.some.inj hf).symm)
      · replace hf := rk_it hf h3
        refine AW_bipush (v := (-2)) dX10_hangs_25 (by decide) ?_
        exact AW_iret dX10_hangs_27 rfl (hq _ _ (Option.some.inj hf).symm)
theorem w_X10_hangs {G : rk_G} {l : Launch} {d : Nat} {n : Nat} {S : rk_Sh} {I : rk_I} {J : rk_J} {R : rk_R} {a1 : Int32} {a2 : Int32} {a3 : Int32} {v8 : Int32} {I8 : rk_I} (hd : 6 ≤ d) (hM : rk_LM S R) (hf : f_X10_hangs I a1 a2 a3 = some (v8, I8)) :
    CW G l yX10_hangs cX10_hangs 9 (some .int) d 0 0 [.ref 31, .int a1, .int a2, .int a3] n S I J R (rk_qi v8 n S I8 J R True) :=
  CW.of (by decide +kernel) (Nat.le_of_ble_eq_true rfl) (rk_sbs (rk_sbs (rk_sbs (rk_sbs (rk_sbe (rk_sbe (rk_sbe (rk_sbe (rk_sbe rk_sb0))))))))) (b_X10_hangs hd hM hf (fun v9 I9 h9 => by cases h9; exact ⟨rfl, rfl, rfl, rfl, rfl, rfl, trivial⟩))
noncomputable def f_X9_moves (S : rk_Sh) (I : rk_I) (R : rk_R) (a1 : Int32) (a2 : Int32) (a3 : Int32) : Option (Int64 × rk_I × rk_R) :=
(f_X9_saleAt I R a1).bind fun q1 =>
rk_oc q1 (
some ((-4611686018427387904), I, R)) (fun o1 => (
if a2 < 0 then (
some ((-4611686018427387904), I, R)) else (
(f_X9_isKind (a2 / 10)).bind fun x1 =>
if x1 = 0 then (
some ((-4611686018427387904), I, R)) else (
(f_X9_isHour a3).bind fun x2 =>
if x2 = 0 then (
some ((-4611686018427387904), I, R)) else (
(rk_ck S o1 5 11).bind fun _ =>
(some (R o1 1)).bind fun q2 =>
(rk_dr S 0 5 q2).bind fun o2 =>
rk_b3 (f_X9_heldAt S I R o2 (rk_md a2 10) a3 1) fun x3 I1 R1 =>
(some (rk_ui I1 o1 0 (a2 / 10))).bind fun I2 =>
(some (R1 o1 1)).bind fun q3 =>
(rk_dr S 0 5 q3).bind fun o3 =>
rk_b3 (f_X9_heldAt S I2 R1 o3 (rk_md a2 10) a3 1) fun x4 I3 R2 =>
(some (rk_ui I3 o1 0 (I1 o1 0))).bind fun I4 =>
some ((x4 - x3).toInt64, I4, R2))))))
theorem b_X9_moves {G : rk_G} {l : Launch} {d kc ks : Nat} {n : Nat} {S : rk_Sh} {I : rk_I} {J : rk_J} {R : rk_R} {Q : rk_Q} {a1 : Int32} {a2 : Int32} {a3 : Int32} {r : Int64 × rk_I × rk_R} (hd : 6 ≤ d) (hL : rk_LC S R) (hf : f_X9_moves S I R a1 a2 a3 = some r) (hq : ∀ (v9 : Int64) (I9 : rk_I) (R9 : rk_R), r = (v9, I9, R9) → rk_LC S R9 → Q (some (.long v9)) n S I9 J R9) :
    AW G l yX9_moves cX9_moves 9 (some .long) d kc ks 0 [some (.ref 0), some (.int a1), some (.int a2), some (.int a3), none, none, none, none, none] [] n S I J R Q := by
  unfold f_X9_moves at hf
  refine AW_aload_n0 dX9_moves_0 ?_
  refine AW_iload_n1 dX9_moves_1 ?_
  replace hf := rk_bd hf
  obtain ⟨q1, e1, hf⟩ := hf
  refine AW_iV1oz (w_X9_saleAt (d := 0) hL e1) dX9_moves_2 kl_X9_131 (hL.1 0 (by decide)) rfl (Nat.le_trans (by decide) hd) (by decide) (Nat.le_of_ble_eq_true rfl) (fun _ => ?_)
  refine AW_astoreO_4 dX9_moves_5 (by decide) rfl ?_
  refine AW_aloadO_4 dX9_moves_7 ?_
  rcases q1 with _ | o1
  · replace hf := rk_oc_n hf
    refine AW_ifnullN 33 dX9_moves_9 (by decide) ?_
    refine AW_ldc2 dX9_moves_33 kv_X9_156 ?_
    exact AW_lret dX9_moves_36 rfl (hq _ _ _ (Option.some.inj hf).symm hL)
  · replace hf := rk_oc_s hf
    refine AW_ifnull dX9_moves_9 ?_
    refine AW_iload_n2 dX9_moves_12 ?_
    refine AW_if_lt 33 dX9_moves_13 (by decide) (fun h1 => ?_) (fun h1 => ?_)
    · replace hf := rk_it hf h1
      refine AW_ldc2 dX9_moves_33 kv_X9_156 ?_
      exact AW_lret dX9_moves_36 rfl (hq _ _ _ (Option.some.inj hf).symm hL)
    · replace hf := rk_if hf h1
      refine AW_iload_n2 dX9_moves_16 ?_
      refine AW_bipush (v := 10) dX9_moves_17 (by decide) ?_
      refine AW_idiv dX9_moves_19 (by decide) ?_
      replace hf := rk_bd hf
      obtain ⟨x1, e2, hf⟩ := hf
      refine AW_iS1iz (w_X9_isKind (d := 0) e2) dX9_moves_20 kl_X9_119 (Nat.le_trans (by decide) hd) (by decide) (Nat.le_of_ble_eq_true rfl) (fun _ => ?_)
      refine AW_if_eq 33 dX9_moves_23 (by decide) (fun h2 => ?_) (fun h2 => ?_)
      · replace hf := rk_it hf h2
        refine AW_ldc2 dX9_moves_33 kv_X9_156 ?_
        exact AW_lret dX9_moves_36 rfl (hq _ _ _ (Option.some.inj hf).symm hL)
      · replace hf := rk_if hf h2
        refine AW_iload_n3 dX9_moves_26 ?_
        replace hf := rk_bd hf
        obtain ⟨x2, e3, hf⟩ := hf
        refine AW_iS1iz (w_X9_isHour (d := 0) e3) dX9_moves_27 kl_X9_122 (Nat.le_trans (by decide) hd) (by decide) (Nat.le_of_ble_eq_true rfl) (fun _ => ?_)
        refine AW_if_ne 37 dX9_moves_30 (by decide) (fun h3 => ?_) (fun h3 => ?_)
        · replace hf := rk_if hf h3
          refine AW_iload_n2 dX9_moves_37 ?_
          refine AW_bipush (v := 10) dX9_moves_38 (by decide) ?_
          refine AW_md dX9_moves_40 (by decide) ?_
          refine AW_istore_5 dX9_moves_41 (by decide) rfl ?_
          refine AW_aload_n0 dX9_moves_43 ?_
          refine AW_aload_4 dX9_moves_44 ?_
          replace hf := rk_bd hf
          obtain ⟨_, e4, hf⟩ := hf
          have e4 := rk_ck_sp e4
          replace hf := rk_bd hf
          obtain ⟨q2, e5, hf⟩ := hf
          refine AW_getQ dX9_moves_46 kf_X9_252 rfl e4 (by decide) e5 ?_
          refine AW_iload_5 dX9_moves_49 ?_
          refine AW_iload_n3 dX9_moves_51 ?_
          refine AW_iconst (v := 1) dX9_moves_52 (by decide) ?_
          replace hf := rk_bd hf
          obtain ⟨o2, e6, hf⟩ := hf
          obtain ⟨e6, hS1⟩ := rk_dr_sp e6
          subst e6
          replace hf := rk_bd3 hf
          obtain ⟨x3, I1, R1, e7, hf⟩ := hf
          refine AW_iV4iz (w_X9_heldAt (d := 5) (Nat.le_refl _) hS1 hL e7) dX9_moves_53 kl_X9_149 (hL.1 0 (by decide)) rfl (Nat.le_trans (by decide) hd) (by decide) (Nat.le_of_ble_eq_true rfl) (fun hL1 => ?_)
          refine AW_istore_6 dX9_moves_56 (by decide) rfl ?_
          refine AW_aload_4 dX9_moves_58 ?_
          refine AW_getI dX9_moves_60 kf_X9_237 rfl e4 (by decide) ?_
          refine AW_istore_7 dX9_moves_63 (by decide) rfl ?_
          refine AW_aload_4 dX9_moves_65 ?_
          refine AW_iload_n2 dX9_moves_67 ?_
          refine AW_bipush (v := 10) dX9_moves_68 (by decide) ?_
          refine AW_idiv dX9_moves_70 (by decide) ?_
          replace hf := rk_bd hf
          obtain ⟨I2, e8, hf⟩ := hf
          refine AW_puI dX9_moves_71 kf_X9_237 rfl e4 (by decide) e8 ?_
          refine AW_aload_n0 dX9_moves_74 ?_
          refine AW_aload_4 dX9_moves_75 ?_
          replace hf := rk_bd hf
          obtain ⟨q3, e9, hf⟩ := hf
          refine AW_getQ dX9_moves_77 kf_X9_252 rfl e4 (by decide) e9 ?_
          refine AW_iload_5 dX9_moves_80 ?_
          refine AW_iload_n3 dX9_moves_82 ?_
          refine AW_iconst (v := 1) dX9_moves_83 (by decide) ?_
          replace hf := rk_bd hf
          obtain ⟨o3, e10, hf⟩ := hf
          obtain ⟨e10, hS2⟩ := rk_dr_sp e10
          subst e10
          replace hf := rk_bd3 hf
          obtain ⟨x4, I3, R2, e11, hf⟩ := hf
          refine AW_iV4iz (w_X9_heldAt (d := 5) (Nat.le_refl _) hS2 hL1 e11) dX9_moves_84 kl_X9_149 (hL1.1 0 (by decide)) rfl (Nat.le_trans (by decide) hd) (by decide) (Nat.le_of_ble_eq_true rfl) (fun hL2 => ?_)
          refine AW_istore_8 dX9_moves_87 (by decide) rfl ?_
          refine AW_aload_4 dX9_moves_89 ?_
          refine AW_iload_7 dX9_moves_91 ?_
          replace hf := rk_bd hf
          obtain ⟨I4, e12, hf⟩ := hf
          refine AW_puI dX9_moves_93 kf_X9_237 rfl e4 (by decide) e12 ?_
          refine AW_iload_8 dX9_moves_96 ?_
          refine AW_iload_6 dX9_moves_98 ?_
          refine AW_isub dX9_moves_100 ?_
          refine AW_i2l dX9_moves_101 ?_
          exact AW_lret dX9_moves_102 rfl (hq _ _ _ (Option.some.inj hf).symm hL2)
        · replace hf := rk_it hf h3
          refine AW_ldc2 dX9_moves_33 kv_X9_156 ?_
          exact AW_lret dX9_moves_36 rfl (hq _ _ _ (Option.some.inj hf).symm hL)
theorem w_X9_moves {G : rk_G} {l : Launch} {d : Nat} {n : Nat} {S : rk_Sh} {I : rk_I} {J : rk_J} {R : rk_R} {a1 : Int32} {a2 : Int32} {a3 : Int32} {v8 : Int64} {I8 : rk_I} {R8 : rk_R} (hd : 6 ≤ d) (hL : rk_LC S R) (hf : f_X9_moves S I R a1 a2 a3 = some (v8, I8, R8)) :
    CW G l yX9_moves cX9_moves 9 (some .long) d 0 0 [.ref 0, .int a1, .int a2, .int a3] n S I J R (rk_ql v8 n S I8 J R8 (rk_LC S R8)) :=
  CW.of (by decide +kernel) (Nat.le_of_ble_eq_true rfl) (rk_sbs (rk_sbs (rk_sbs (rk_sbs (rk_sbe (rk_sbe (rk_sbe (rk_sbe (rk_sbe rk_sb0))))))))) (b_X9_moves hd hL hf (fun v9 I9 R9 h9 hl9 => by cases h9; exact ⟨rfl, rfl, rfl, rfl, rfl, rfl, hl9⟩))
