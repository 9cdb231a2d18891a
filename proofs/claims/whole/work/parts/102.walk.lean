noncomputable def f_X10_feed_l33 (I : rk_I) (u1 : Int32) (u2 : Int64) (s4 : Int32) : Option ((Int32 × rk_I) ⊕ (Int32 × rk_I)) :=
if u1 ≤ s4 then (
some (.inr (s4, I))) else (
(rk_wr I 34 160 (I 31 6) (Int64.toInt32 ((rk_lsr u2 (8 * s4)) &&& 255))).bind fun I1 =>
(some (rk_ui I1 31 6 ((I1 31 6) + 1))).bind fun I2 =>
some (.inl ((s4 + 1), I2)))
theorem b_X10_feed_l33 {G : rk_G} {l : Launch} {d kc ks : Nat} {n : Nat} {S : rk_Sh} {I : rk_I} {J : rk_J} {R : rk_R} {Q : rk_Q} {u1 : Int32} {u2 : Int64} {s4 : Int32} {r : (Int32 × rk_I) ⊕ (Int32 × rk_I)} (hd : 1 ≤ d) (hM : rk_LM S R) (hf : f_X10_feed_l33 I u1 u2 s4 = some r) (hc : ∀ (w0 : Int32) (I9 : rk_I), r = .inl (w0, I9) → AW G l yX10_feed cX10_feed 5 (some .int) d kc ks 33 [some (.ref 31), some (.int u1), some (.long u2), none, some (.int w0)] [] n S I9 J R Q) (he : ∀ (w0 : Int32) (I9 : rk_I), r = .inr (w0, I9) → AW G l yX10_feed cX10_feed 5 (some .int) d kc ks 76 [some (.ref 31), some (.int u1), some (.long u2), none, some (.int w0)] [] n S I9 J R Q) :
    AW G l yX10_feed cX10_feed 5 (some .int) d kc ks 33 [some (.ref 31), some (.int u1), some (.long u2), none, some (.int s4)] [] n S I J R Q := by
  unfold f_X10_feed_l33 at hf
  refine AW_iload_4 dX10_feed_33 ?_
  refine AW_iload_n1 dX10_feed_35 ?_
  refine AW_icmp_ge 76 dX10_feed_36 (by decide) (fun h1 => ?_) (fun h1 => ?_)
  · replace hf := rk_it hf h1
    refine AW_sb (rk_sbs (rk_sbs (rk_sbs (rk_sbn (rk_sbs rk_sb0))))) ?_
    exact he _ _ (Option.some.inj hf).symm
  · replace hf := rk_if hf h1
    refine AW_aload_n0 dX10_feed_39 ?_
    refine AW_getR dX10_feed_40 kf_X10_20 rfl (hM.1 31 (by decide) (by decide)) (by decide) (hM.2 31 5 34 rfl) ?_
    refine AW_aload_n0 dX10_feed_43 ?_
    refine AW_getI dX10_feed_44 kf_X10_176 rfl (hM.1 31 (by decide) (by decide)) (by decide) ?_
    refine AW_lload_n2 dX10_feed_47 ?_
    refine AW_bipush (v := 8) dX10_feed_48 (by decide) ?_
    refine AW_iload_4 dX10_feed_50 ?_
    refine AW_imul dX10_feed_52 ?_
    refine AW_lsr dX10_feed_53 ?_
    refine AW_ldc2 dX10_feed_54 kv_X10_109 ?_
    refine AW_land dX10_feed_57 ?_
    refine AW_l2i dX10_feed_58 ?_
    replace hf := rk_bd hf
    obtain ⟨I1, e1, hf⟩ := hf
    refine AW_wr dX10_feed_59 (hM.1 34 (by decide) (by decide)) e1 ?_
    refine AW_aload_n0 dX10_feed_60 ?_
    refine AW_dup dX10_feed_61 rfl ?_
    refine AW_getI dX10_feed_62 kf_X10_176 rfl (hM.1 31 (by decide) (by decide)) (by decide) ?_
    refine AW_iconst (v := 1) dX10_feed_65 (by decide) ?_
    refine AW_iadd dX10_feed_66 ?_
    replace hf := rk_bd hf
    obtain ⟨I2, e2, hf⟩ := hf
    refine AW_puI dX10_feed_67 kf_X10_176 rfl (hM.1 31 (by decide) (by decide)) (by decide) e2 ?_
    refine AW_iinc_4 (v := 1) dX10_feed_70 (by decide) (by decide) rfl ?_
    refine AW_goto 33 dX10_feed_73 (by decide) ?_
    refine AW_sb (rk_sbs (rk_sbs (rk_sbs (rk_sbn (rk_sbs rk_sb0))))) ?_
    exact hc _ _ (Option.some.inj hf).symm
theorem L_X10_feed_w33 {G : rk_G} {l : Launch} {d kc ks : Nat} {n : Nat} {S : rk_Sh} {J : rk_J} {R : rk_R} {Q : rk_Q} {u1 : Int32} {u2 : Int64} {r : Int32 × rk_I} (hd : 1 ≤ d) (hM : rk_LM S R) (he : ∀ (w0 : Int32) (I9 : rk_I), r = (w0, I9) → AW G l yX10_feed cX10_feed 5 (some .int) d kc ks 76 [some (.ref 31), some (.int u1), some (.long u2), none, some (.int w0)] [] n S I9 J R Q) :
    ∀ (m9 : Nat) (s4 : Int32) (I : rk_I), rk_loop (fun a9 => f_X10_feed_l33 a9.2 u1 u2 a9.1) m9 (s4, I) = some r → AW G l yX10_feed cX10_feed 5 (some .int) d kc ks 33 [some (.ref 31), some (.int u1), some (.long u2), none, some (.int s4)] [] n S I J R Q := by
  intro m9
  induction m9 with
  | zero => intro s4 I hf; cases hf
  | succ m9 ih =>
    intro s4 I hf 
    obtain ⟨r9, hf, hr⟩ := rk_loop_s hf
    exact b_X10_feed_l33 hd hM hf (fun _ _ h9 => by subst h9; exact ih _ _ hr) (fun _ _ h9 => by subst h9; exact he _ _ hr.symm)
noncomputable def f_X10_feed (I : rk_I) (a1 : Int32) (a2 : Int64) : Option (Int32 × rk_I) :=
(f_X10_in a1.toInt64 1 8).bind fun x1 =>
if x1 = 0 then (
some ((-2), I)) else (
if ((I 31 6) + a1) ≤ 160 then (
rk_b2 (rk_while (fun a9 => f_X10_feed_l33 a9.2 a1 a2 a9.1) (0, I)) fun x2 I1 =>
some ((I1 31 6), I1)) else (
some ((-4), I)))
theorem b_X10_feed {G : rk_G} {l : Launch} {d kc ks : Nat} {n : Nat} {S : rk_Sh} {I : rk_I} {J : rk_J} {R : rk_R} {Q : rk_Q} {a1 : Int32} {a2 : Int64} {r : Int32 × rk_I} (hd : 1 ≤ d) (hM : rk_LM S R) (hf : f_X10_feed I a1 a2 = some r) (hq : ∀ (v9 : Int32) (I9 : rk_I), r = (v9, I9) → Q (some (.int v9)) n S I9 J R) :
    AW G l yX10_feed cX10_feed 5 (some .int) d kc ks 0 [some (.ref 31), some (.int a1), some (.long a2), none, none] [] n S I J R Q := by
  unfold f_X10_feed at hf
  refine AW_iload_n1 dX10_feed_0 ?_
  refine AW_i2l dX10_feed_1 ?_
  refine AW_lconst (v := 1) dX10_feed_2 (by decide) ?_
  refine AW_ldc2 dX10_feed_3 kv_X10_174 ?_
  replace hf := rk_bd hf
  obtain ⟨x1, e1, hf⟩ := hf
  refine AW_iS3iz (w_X10_in (d := 0) e1) dX10_feed_6 kl_X10_114 (Nat.le_trans (by decide) hd) (by decide) (Nat.le_of_ble_eq_true rfl) (fun _ => ?_)
  refine AW_if_ne 15 dX10_feed_9 (by decide) (fun h1 => ?_) (fun h1 => ?_)
  · replace hf := rk_if hf h1
    refine AW_aload_n0 dX10_feed_15 ?_
    refine AW_getI dX10_feed_16 kf_X10_176 rfl (hM.1 31 (by decide) (by decide)) (by decide) ?_
    refine AW_iload_n1 dX10_feed_19 ?_
    refine AW_iadd dX10_feed_20 ?_
    refine AW_sipush (v := 160) dX10_feed_21 (by decide) ?_
    refine AW_icmp_le 30 dX10_feed_24 (by decide) (fun h2 => ?_) (fun h2 => ?_)
    · replace hf := rk_it hf h2
      refine AW_iconst (v := 0) dX10_feed_30 (by decide) ?_
      refine AW_istore_4 dX10_feed_31 (by decide) rfl ?_
      refine AW_sb (rk_sbs (rk_sbs (rk_sbs (rk_sbn (rk_sbs rk_sb0))))) ?_
      replace hf := rk_bd2 hf
      obtain ⟨x2, I1, e2, hf⟩ := hf
      obtain ⟨m1, e2⟩ := rk_while_sp e2
      refine L_X10_feed_w33 (Nat.le_trans (by decide) hd) hM ?_ m1 _ _ e2
      intro x2 I1 h9
      cases h9
      refine AW_aload_n0 dX10_feed_76 ?_
      refine AW_getI dX10_feed_77 kf_X10_176 rfl (hM.1 31 (by decide) (by decide)) (by decide) ?_
      exact AW_iret dX10_feed_80 rfl (hq _ _ (Option.some.inj hf).symm)
    · replace hf := rk_if hf h2
      refine AW_bipush (v := (-4)) dX10_feed_27 (by decide) ?_
      exact AW_iret dX10_feed_29 rfl (hq _ _ (Option.some.inj hf).symm)
  · replace hf := rk_it hf h1
    refine AW_bipush (v := (-2)) dX10_feed_12 (by decide) ?_
    exact AW_iret dX10_feed_14 rfl (hq _ _ (Option.some.inj hf).symm)
theorem w_X10_feed {G : rk_G} {l : Launch} {d : Nat} {n : Nat} {S : rk_Sh} {I : rk_I} {J : rk_J} {R : rk_R} {a1 : Int32} {a2 : Int64} {v8 : Int32} {I8 : rk_I} (hd : 1 ≤ d) (hM : rk_LM S R) (hf : f_X10_feed I a1 a2 = some (v8, I8)) :
    CW G l yX10_feed cX10_feed 5 (some .int) d 0 0 [.ref 31, .int a1, .long a2] n S I J R (rk_qi v8 n S I8 J R True) :=
  CW.of (by decide +kernel) (Nat.le_of_ble_eq_true rfl) (rk_sbs (rk_sbs (rk_sbs (rk_sbs (rk_sbe rk_sb0))))) (b_X10_feed hd hM hf (fun v9 I9 h9 => by cases h9; exact ⟨rfl, rfl, rfl, rfl, rfl, rfl, trivial⟩))
noncomputable def f_X2_isLetter (a0 : Int32) : Option (Int32) :=
if a0 < 97 then (
some 0) else (
if 122 < a0 then (
some 0) else (
some 1))
theorem b_X2_isLetter {G : rk_G} {l : Launch} {d kc ks : Nat} {n : Nat} {S : rk_Sh} {I : rk_I} {J : rk_J} {R : rk_R} {Q : rk_Q} {a0 : Int32} {r : Int32} (hf : f_X2_isLetter a0 = some r) (hq : ∀ (v9 : Int32), r = v9 → Q (some (.int v9)) n S I J R) :
    AW G l yX2_isLetter cX2_isLetter 1 (some .boolean) d kc ks 0 [some (.int a0)] [] n S I J R Q := by
  unfold f_X2_isLetter at hf
  refine AW_iload_n0 dX2_isLetter_0 ?_
  refine AW_bipush (v := 97) dX2_isLetter_1 (by decide) ?_
  refine AW_icmp_lt 16 dX2_isLetter_3 (by decide) (fun h1 => ?_) (fun h1 => ?_)
  · replace hf := rk_it hf h1
    refine AW_iconst (v := 0) dX2_isLetter_16 (by decide) ?_
    exact AW_zret dX2_isLetter_17 rfl rfl (hq _ (Option.some.inj hf).symm)
  · replace hf := rk_if hf h1
    refine AW_iload_n0 dX2_isLetter_6 ?_
    refine AW_bipush (v := 122) dX2_isLetter_7 (by decide) ?_
    refine AW_icmp_gt 16 dX2_isLetter_9 (by decide) (fun h2 => ?_) (fun h2 => ?_)
    · replace hf := rk_it hf h2
      refine AW_iconst (v := 0) dX2_isLetter_16 (by decide) ?_
      exact AW_zret dX2_isLetter_17 rfl rfl (hq _ (Option.some.inj hf).symm)
    · replace hf := rk_if hf h2
      refine AW_iconst (v := 1) dX2_isLetter_12 (by decide) ?_
      refine AW_goto 17 dX2_isLetter_13 (by decide) ?_
      exact AW_zret dX2_isLetter_17 rfl rfl (hq _ (Option.some.inj hf).symm)
theorem w_X2_isLetter {G : rk_G} {l : Launch} {d : Nat} {n : Nat} {S : rk_Sh} {I : rk_I} {J : rk_J} {R : rk_R} {a0 : Int32} {v8 : Int32} (hf : f_X2_isLetter a0 = some v8) :
    CW G l yX2_isLetter cX2_isLetter 1 (some .boolean) d 0 0 [.int a0] n S I J R (rk_qi v8 n S I J R True) :=
  CW.of (by decide +kernel) (Nat.le_of_ble_eq_true rfl) (rk_sbs rk_sb0) (b_X2_isLetter hf (fun v9 h9 => by cases h9; exact ⟨rfl, rfl, rfl, rfl, rfl, rfl, trivial⟩))
noncomputable def f_X2_isDigit (a0 : Int32) : Option (Int32) :=
if a0 < 48 then (
some 0) else (
if 57 < a0 then (
some 0) else (
some 1))
theorem b_X2_isDigit {G : rk_G} {l : Launch} {d kc ks : Nat} {n : Nat} {S : rk_Sh} {I : rk_I} {J : rk_J} {R : rk_R} {Q : rk_Q} {a0 : Int32} {r : Int32} (hf : f_X2_isDigit a0 = some r) (hq : ∀ (v9 : Int32), r = v9 → Q (some (.int v9)) n S I J R) :
    AW G l yX2_isDigit cX2_isDigit 1 (some .boolean) d kc ks 0 [some (.int a0)] [] n S I J R Q := by
  unfold f_X2_isDigit at hf
  refine AW_iload_n0 dX2_isDigit_0 ?_
  refine AW_bipush (v := 48) dX2_isDigit_1 (by decide) ?_
  refine AW_icmp_lt 16 dX2_isDigit_3 (by decide) (fun h1 => ?_) (fun h1 => ?_)
  · replace hf := rk_it hf h1
    refine AW_iconst (v := 0) dX2_isDigit_16 (by decide) ?_
    exact AW_zret dX2_isDigit_17 rfl rfl (hq _ (Option.some.inj hf).symm)
  · replace hf := rk_if hf h1
    refine AW_iload_n0 dX2_isDigit_6 ?_
    refine AW_bipush (v := 57) dX2_isDigit_7 (by decide) ?_
    refine AW_icmp_gt 16 dX2_isDigit_9 (by decide) (fun h2 => ?_) (fun h2 => ?_)
    · replace hf := rk_it hf h2
      refine AW_iconst (v := 0) dX2_isDigit_16 (by decide) ?_
      exact AW_zret dX2_isDigit_17 rfl rfl (hq _ (Option.some.inj hf).symm)
    · replace hf := rk_if hf h2
      refine AW_iconst (v := 1) dX2_isDigit_12 (by decide) ?_
      refine AW_goto 17 dX2_isDigit_13 (by decide) ?_
      exact AW_zret dX2_isDigit_17 rfl rfl (hq _ (Option.some.inj hf).symm)
theorem w_X2_isDigit {G : rk_G} {l : Launch} {d : Nat} {n : Nat} {S : rk_Sh} {I : rk_I} {J : rk_J} {R : rk_R} {a0 : Int32} {v8 : Int32} (hf : f_X2_isDigit a0 = some v8) :
    CW G l yX2_isDigit cX2_isDigit 1 (some .boolean) d 0 0 [.int a0] n S I J R (rk_qi v8 n S I J R True) :=
  CW.of (by decide +kernel) (Nat.le_of_ble_eq_true rfl) (rk_sbs rk_sb0) (b_X2_isDigit hf (fun v9 h9 => by cases h9; exact ⟨rfl, rfl, rfl, rfl, rfl, rfl, trivial⟩))
noncomputable def f_X2_endOfToken_l25 (I : rk_I) (u2 : Int32) (u3 : Int32) (s4 : Int32) : Option ((Int32) ⊕ (Int32)) :=
if (I 4 1) ≤ s4 then (
some (.inr s4)) else (
if u2 = 0 then (
if u3 = 0 then (
some (.inr s4)) else (
(rk_rd I 5 160 s4).bind fun x1 =>
(f_X2_isDigit x1).bind fun x2 =>
if x2 = 0 then (
some (.inr s4)) else (
some (.inl (s4 + 1))))) else (
(rk_rd I 5 160 s4).bind fun x3 =>
(f_X2_isLetter x3).bind fun x4 =>
if x4 = 0 then (
if u3 = 0 then (
some (.inr s4)) else (
(rk_rd I 5 160 s4).bind fun x5 =>
(f_X2_isDigit x5).bind fun x6 =>
if x6 = 0 then (
some (.inr s4)) else (
some (.inl (s4 + 1))))) else (
some (.inl (s4 + 1)))))
theorem b_X2_endOfToken_l25 {G : rk_G} {l : Launch} {d kc ks : Nat} {n : Nat} {S : rk_Sh} {I : rk_I} {J : rk_J} {R : rk_R} {Q : rk_Q} {u2 : Int32} {u3 : Int32} {s4 : Int32} {r : (Int32) ⊕ (Int32)} (hd : 1 ≤ d) (hL : rk_LC S R) (hf : f_X2_endOfToken_l25 I u2 u3 s4 = some r) (hc : ∀ (w0 : Int32), r = .inl w0 → AW G l yX2_endOfToken cX2_endOfToken 5 (some .int) d kc ks 25 [some (.ref 4), none, some (.int u2), some (.int u3), some (.int w0)] [] n S I J R Q) (he : ∀ (w0 : Int32), r = .inr w0 → AW G l yX2_endOfToken cX2_endOfToken 5 (some .int) d kc ks 74 [some (.ref 4), none, some (.int u2), some (.int u3), some (.int w0)] [] n S I J R Q) :
    AW G l yX2_endOfToken cX2_endOfToken 5 (some .int) d kc ks 25 [some (.ref 4), none, some (.int u2), some (.int u3), some (.int s4)] [] n S I J R Q := by
  unfold f_X2_endOfToken_l25 at hf
  refine AW_iload_4 dX2_endOfToken_25 ?_
  refine AW_aload_n0 dX2_endOfToken_27 ?_
  refine AW_getI dX2_endOfToken_28 kf_X2_27 rfl (hL.1 4 (by decide)) (by decide) ?_
  refine AW_icmp_ge 74 dX2_endOfToken_31 (by decide) (fun h1 => ?_) (fun h1 => ?_)
  · replace hf := rk_it hf h1
    refine AW_sb (rk_sbs (rk_sbn (rk_sbs (rk_sbs (rk_sbs rk_sb0))))) ?_
    exact he _ (Option.some.inj hf).symm
  · replace hf := rk_if hf h1
    refine AW_iload_n2 dX2_endOfToken_34 ?_
    refine AW_if_eq 51 dX2_endOfToken_35 (by decide) (fun h2 => ?_) (fun h2 => ?_)
    · replace hf := rk_it hf h2
      refine AW_iload_n3 dX2_endOfToken_51 ?_
      refine AW_if_eq 74 dX2_endOfToken_52 (by decide) (fun h3 => ?_) (fun h3 => ?_)
      · replace hf := rk_it hf h3
        refine AW_sb (rk_sbs (rk_sbn (rk_sbs (rk_sbs (rk_sbs rk_sb0))))) ?_
        exact he _ (Option.some.inj hf).symm
      · replace hf := rk_if hf h3
        refine AW_aload_n0 dX2_endOfToken_55 ?_
        refine AW_getR dX2_endOfToken_56 kf_X2_11 rfl (hL.1 4 (by decide)) (by decide) (hL.2 4 0 5 rfl) ?_
        refine AW_iload_4 dX2_endOfToken_59 ?_
        replace hf := rk_bd hf
        obtain ⟨x1, e1, hf⟩ := hf
        refine AW_rd dX2_endOfToken_61 (hL.1 5 (by decide)) e1 ?_
        replace hf := rk_bd hf
        obtain ⟨x2, e2, hf⟩ := hf
        refine AW_iS1iz (w_X2_isDigit (d := 0) e2) dX2_endOfToken_62 kl_X2_89 (Nat.le_trans (by decide) hd) (by decide) (Nat.le_of_ble_eq_true rfl) (fun _ => ?_)
        refine AW_if_eq 74 dX2_endOfToken_65 (by decide) (fun h4 => ?_) (fun h4 => ?_)
        · replace hf := rk_it hf h4
          refine AW_sb (rk_sbs (rk_sbn (rk_sbs (rk_sbs (rk_sbs rk_sb0))))) ?_
          exact he _ (Option.some.inj hf).symm
        · replace hf := rk_if hf h4
          refine AW_iinc_4 (v := 1) dX2_endOfToken_68 (by decide) (by decide) rfl ?_
          refine AW_goto 25 dX2_endOfToken_71 (by decide) ?_
          refine AW_sb (rk_sbs (rk_sbn (rk_sbs (rk_sbs (rk_sbs rk_sb0))))) ?_
          exact hc _ (Option.some.inj hf).symm
    · replace hf := rk_if hf h2
      refine AW_aload_n0 dX2_endOfToken_38 ?_
      refine AW_getR dX2_endOfToken_39 kf_X2_11 rfl (hL.1 4 (by decide)) (by decide) (hL.2 4 0 5 rfl) ?_
      refine AW_iload_4 dX2_endOfToken_42 ?_
      replace hf := rk_bd hf
      obtain ⟨x3, e3, hf⟩ := hf
      refine AW_rd dX2_endOfToken_44 (hL.1 5 (by decide)) e3 ?_
      replace hf := rk_bd hf
      obtain ⟨x4, e4, hf⟩ := hf
      refine AW_iS1iz (w_X2_isLetter (d := 0) e4) dX2_endOfToken_45 kl_X2_86 (Nat.le_trans (by decide) hd) (by decide) (Nat.le_of_ble_eq_true rfl) (fun _ => ?_)
      refine AW_if_ne 68 dX2_endOfToken_48 (by decide) (fun h5 => ?_) (fun h5 => ?_)
      · replace hf := rk_if hf h5
        refine AW_iinc_4 (v := 1) dX2_endOfToken_68 (by decide) (by decide) rfl ?_
        refine AW_goto 25 dX2_endOfToken_71 (by decide) ?_
        refine AW_sb (rk_sbs (rk_sbn (rk_sbs (rk_sbs (rk_sbs rk_sb0))))) ?_
        exact hc _ (Option.some.inj hf).symm
      · replace hf := rk_it hf h5
        refine AW_iload_n3 dX2_endOfToken_51 ?_
        refine AW_if_eq 74 dX2_endOfToken_52 (by decide) (fun h6 => ?_) (fun h6 => ?_)
        · replace hf := rk_it hf h6
          refine AW_sb (rk_sbs (rk_sbn (rk_sbs (rk_sbs (rk_sbs rk_sb0))))) ?_
          exact he _ (Option.some.inj hf).symm
        · replace hf := rk_if hf h6
          refine AW_aload_n0 dX2_endOfToken_55 ?_
          refine AW_getR dX2_endOfToken_56 kf_X2_11 rfl (hL.1 4 (by decide)) (by decide) (hL.2 4 0 5 rfl) ?_
          refine AW_iload_4 dX2_endOfToken_59 ?_
          replace hf := rk_bd hf
          obtain ⟨x5, e5, hf⟩ := hf
          refine AW_rd dX2_endOfToken_61 (hL.1 5 (by decide)) e5 ?_
          replace hf := rk_bd hf
          obtain ⟨x6, e6, hf⟩ := hf
          refine AW_iS1iz (w_X2_isDigit (d := 0) e6) dX2_endOfToken_62 kl_X2_89 (Nat.le_trans (by decide) hd) (by decide) (Nat.le_of_ble_eq_true rfl) (fun _ => ?_)
          refine AW_if_eq 74 dX2_endOfToken_65 (by decide) (fun h7 => ?_) (fun h7 => ?_)
          · replace hf := rk_it hf h7
            refine AW_sb (rk_sbs (rk_sbn (rk_sbs (rk_sbs (rk_sbs rk_sb0))))) ?_
            exact he _ (Option.some.inj hf).symm
          · replace hf := rk_if hf h7
            refine AW_iinc_4 (v := 1) dX2_endOfToken_68 (by decide) (by decide) rfl ?_
            refine AW_goto 25 dX2_endOfToken_71 (by decide) ?_
            refine AW_sb (rk_sbs (rk_sbn (rk_sbs (rk_sbs (rk_sbs rk_sb0))))) ?_
            exact hc _ (Option.some.inj hf).symm
theorem L_X2_endOfToken_w25 {G : rk_G} {l : Launch} {d kc ks : Nat} {n : Nat} {S : rk_Sh} {I : rk_I} {J : rk_J} {R : rk_R} {Q : rk_Q} {u2 : Int32} {u3 : Int32} {r : Int32} (hd : 1 ≤ d) (hL : rk_LC S R) (he : ∀ (w0 : Int32), r = w0 → AW G l yX2_endOfToken cX2_endOfToken 5 (some .int) d kc ks 74 [some (.ref 4), none, some (.int u2), some (.int u3), some (.int w0)] [] n S I J R Q) :
    ∀ (m9 : Nat) (s4 : Int32) , rk_loop (fun a9 => f_X2_endOfToken_l25 I u2 u3 a9) m9 s4 = some r → AW G l yX2_endOfToken cX2_endOfToken 5 (some .int) d kc ks 25 [some (.ref 4), none, some (.int u2), some (.int u3), some (.int s4)] [] n S I J R Q := by
  intro m9
  induction m9 with
  | zero => intro s4 hf; cases hf
  | succ m9 ih =>
    intro s4 hf 
    obtain ⟨r9, hf, hr⟩ := rk_loop_s hf
    exact b_X2_endOfToken_l25 hd hL hf (fun _ h9 => by subst h9; exact ih _ hr) (fun _ h9 => by subst h9; exact he _ hr.symm)
noncomputable def f_X2_endOfToken (I : rk_I) (a1 : Int32) : Option (Int32) :=
(rk_rd I 5 160 a1).bind fun x1 =>
(f_X2_isLetter x1).bind fun x2 =>
(rk_rd I 5 160 a1).bind fun x3 =>
(f_X2_isDigit x3).bind fun x4 =>
(rk_while (fun a9 => f_X2_endOfToken_l25 I x2 x4 a9) (a1 + 1)).bind fun x5 =>
some x5
theorem b_X2_endOfToken {G : rk_G} {l : Launch} {d kc ks : Nat} {n : Nat} {S : rk_Sh} {I : rk_I} {J : rk_J} {R : rk_R} {Q : rk_Q} {a1 : Int32} {r : Int32} (hd : 1 ≤ d) (hL : rk_LC S R) (hf : f_X2_endOfToken I a1 = some r) (hq : ∀ (v9 : Int32), r = v9 → Q (some (.int v9)) n S I J R) :
    AW G l yX2_endOfToken cX2_endOfToken 5 (some .int) d kc ks 0 [some (.ref 4), some (.int a1), none, none, none] [] n S I J R Q := by
  unfold f_X2_endOfToken at hf
  refine AW_aload_n0 dX2_endOfToken_0 ?_
  refine AW_getR dX2_endOfToken_1 kf_X2_11 rfl (hL.1 4 (by decide)) (by decide) (hL.2 4 0 5 rfl) ?_
  refine AW_iload_n1 dX2_endOfToken_4 ?_
  replace hf := rk_bd hf
  obtain ⟨x1, e1, hf⟩ := hf
  refine AW_rd dX2_endOfToken_5 (hL.1 5 (by decide)) e1 ?_
  replace hf := rk_bd hf
  obtain ⟨x2, e2, hf⟩ := hf
  refine AW_iS1iz (w_X2_isLetter (d := 0) e2) dX2_endOfToken_6 kl_X2_86 (Nat.le_trans (by decide) hd) (by decide) (Nat.le_of_ble_eq_true rfl) (fun _ => ?_)
  refine AW_istore_n2 dX2_endOfToken_9 (by decide) rfl ?_
  refine AW_aload_n0 dX2_endOfToken_10 ?_
  refine AW_getR dX2_endOfToken_11 kf_X2_11 rfl (hL.1 4 (by decide)) (by decide) (hL.2 4 0 5 rfl) ?_
  refine AW_iload_n1 dX2_endOfToken_14 ?_
  replace hf := rk_bd hf
  obtain ⟨x3, e3, hf⟩ := hf
  refine AW_rd dX2_endOfToken_15 (hL.1 5 (by decide)) e3 ?_
  replace hf := rk_bd hf
  obtain ⟨x4, e4, hf⟩ := hf
  refine AW_iS1iz (w_X2_isDigit (d := 0) e4) dX2_endOfToken_16 kl_X2_89 (Nat.le_trans (by decide) hd) (by decide) (Nat.le_of_ble_eq_true rfl) (fun _ => ?_)
  refine AW_istore_n3 dX2_endOfToken_19 (by decide) rfl ?_
  refine AW_iload_n1 dX2_endOfToken_20 ?_
  refine AW_iconst (v := 1) dX2_endOfToken_21 (by decide) ?_
  refine AW_iadd dX2_endOfToken_22 ?_
  refine AW_istore_4 dX2_endOfToken_23 (by decide) rfl ?_
  refine AW_sb (rk_sbs (rk_sbn (rk_sbs (rk_sbs (rk_sbs rk_sb0))))) ?_
  replace hf := rk_bd hf
  obtain ⟨x5, e5, hf⟩ := hf
  obtain ⟨m1, e5⟩ := rk_while_sp e5
  refine L_X2_endOfToken_w25 (Nat.le_trans (by decide) hd) hL ?_ m1 _ e5
  intro x5 h9
  cases h9
  refine AW_iload_4 dX2_endOfToken_74 ?_
  exact AW_iret dX2_endOfToken_76 rfl (hq _ (Option.some.inj hf).symm)
theorem w_X2_endOfToken {G : rk_G} {l : Launch} {d : Nat} {n : Nat} {S : rk_Sh} {I : rk_I} {J : rk_J} {R : rk_R} {a1 : Int32} {v8 : Int32} (hd : 1 ≤ d) (hL : rk_LC S R) (hf : f_X2_endOfToken I a1 = some v8) :
    CW G l yX2_endOfToken cX2_endOfToken 5 (some .int) d 0 0 [.ref 4, .int a1] n S I J R (rk_qi v8 n S I J R True) :=
  CW.of (by decide +kernel) (Nat.le_of_ble_eq_true rfl) (rk_sbs (rk_sbs (rk_sbe (rk_sbe (rk_sbe rk_sb0))))) (b_X2_endOfToken hd hL hf (fun v9 h9 => by cases h9; exact ⟨rfl, rfl, rfl, rfl, rfl, rfl, trivial⟩))
noncomputable def f_X2_isBlank (a0 : Int32) : Option (Int32) :=
if a0 = 32 then (
some 1) else (
if a0 = 10 then (
some 1) else (
some 0))
theorem b_X2_isBlank {G : rk_G} {l : Launch} {d kc ks : Nat} {n : Nat} {S : rk_Sh} {I : rk_I} {J : rk_J} {R : rk_R} {Q : rk_Q} {a0 : Int32} {r : Int32} (hf : f_X2_isBlank a0 = some r) (hq : ∀ (v9 : Int32), r = v9 → Q (some (.int v9)) n S I J R) :
    AW G l yX2_isBlank cX2_isBlank 1 (some .boolean) d kc ks 0 [some (.int a0)] [] n S I J R Q := by
  unfold f_X2_isBlank at hf
  refine AW_iload_n0 dX2_isBlank_0 ?_
  refine AW_bipush (v := 32) dX2_isBlank_1 (by decide) ?_
  refine AW_icmp_eq 12 dX2_isBlank_3 (by decide) (fun h1 => ?_) (fun h1 => ?_)
  · replace hf := rk_it hf h1
    refine AW_iconst (v := 1) dX2_isBlank_12 (by decide) ?_
    refine AW_goto 17 dX2_isBlank_13 (by decide) ?_
    exact AW_zret dX2_isBlank_17 rfl rfl (hq _ (Option.some.inj hf).symm)
  · replace hf := rk_if hf h1
    refine AW_iload_n0 dX2_isBlank_6 ?_
    refine AW_bipush (v := 10) dX2_isBlank_7 (by decide) ?_
    refine AW_icmp_ne 16 dX2_isBlank_9 (by decide) (fun h2 => ?_) (fun h2 => ?_)
    · replace hf := rk_if hf h2
      refine AW_iconst (v := 0) dX2_isBlank_16 (by decide) ?_
      exact AW_zret dX2_isBlank_17 rfl rfl (hq _ (Option.some.inj hf).symm)
    · replace hf := rk_it hf h2
      refine AW_iconst (v := 1) dX2_isBlank_12 (by decide) ?_
      refine AW_goto 17 dX2_isBlank_13 (by decide) ?_
      exact AW_zret dX2_isBlank_17 rfl rfl (hq _ (Option.some.inj hf).symm)
theorem w_X2_isBlank {G : rk_G} {l : Launch} {d : Nat} {n : Nat} {S : rk_Sh} {I : rk_I} {J : rk_J} {R : rk_R} {a0 : Int32} {v8 : Int32} (hf : f_X2_isBlank a0 = some v8) :
    CW G l yX2_isBlank cX2_isBlank 1 (some .boolean) d 0 0 [.int a0] n S I J R (rk_qi v8 n S I J R True) :=
  CW.of (by decide +kernel) (Nat.le_of_ble_eq_true rfl) (rk_sbs rk_sb0) (b_X2_isBlank hf (fun v9 h9 => by cases h9; exact ⟨rfl, rfl, rfl, rfl, rfl, rfl, trivial⟩))
noncomputable def f_J0_isLatin1_aae02_1000005  : Option (Int32) :=
some 1
theorem b_J0_isLatin1_aae02_1000005 {G : rk_G} {l : Launch} {d kc ks : Nat} {n : Nat} {S : rk_Sh} {I : rk_I} {J : rk_J} {R : rk_R} {Q : rk_Q}  {r : Int32} (hf : f_J0_isLatin1_aae02_1000005 = some r) (hq : ∀ (v9 : Int32), r = v9 → Q (some (.int v9)) n S I J R) :
    AW G l yJ0_isLatin1_aae02 cJ0_isLatin1_aae02 1 (some .boolean) d kc ks 0 [some (.ref 1000005)] [] n S I J R Q := by
  unfold f_J0_isLatin1_aae02_1000005 at hf
  refine AW_gsZ dJ0_isLatin1_aae02_0 ky_J0_38 ?_
  refine AW_if_eq 17 dJ0_isLatin1_aae02_3 (by decide) (fun h9 => absurd h9 (by decide)) (fun _ => ?_)
  refine AW_aload_n0 dJ0_isLatin1_aae02_6 ?_
  refine AW_scoder 2 (by decide) dJ0_isLatin1_aae02_7 ky_J0_15 ?_
  refine AW_if_ne 17 dJ0_isLatin1_aae02_10 (by decide) (fun h9 => absurd h9 (by decide)) (fun _ => ?_)
  refine AW_iconst (v := 1) dJ0_isLatin1_aae02_13 (by decide) ?_
  refine AW_goto 18 dJ0_isLatin1_aae02_14 (by decide) ?_
  exact AW_zret dJ0_isLatin1_aae02_18 rfl rfl (hq _ (Option.some.inj hf).symm)
theorem w_J0_isLatin1_aae02_1000005 {G : rk_G} {l : Launch} {d : Nat} {n : Nat} {S : rk_Sh} {I : rk_I} {J : rk_J} {R : rk_R}  {v8 : Int32} (hf : f_J0_isLatin1_aae02_1000005 = some v8) :
    CW G l yJ0_isLatin1_aae02 cJ0_isLatin1_aae02 1 (some .boolean) d 0 0 [.ref 1000005] n S I J R (rk_qi v8 n S I J R True) :=
  CW.of (by decide +kernel) (Nat.le_of_ble_eq_true rfl) (rk_sbs rk_sb0) (b_J0_isLatin1_aae02_1000005 hf (fun v9 h9 => by cases h9; exact ⟨rfl, rfl, rfl, rfl, rfl, rfl, trivial⟩))
noncomputable def f_J0_coder_7d493_1000005  : Option (Int32) :=
some 0
theorem b_J0_coder_7d493_1000005 {G : rk_G} {l : Launch} {d kc ks : Nat} {n : Nat} {S : rk_Sh} {I : rk_I} {J : rk_J} {R : rk_R} {Q : rk_Q}  {r : Int32} (hf : f_J0_coder_7d493_1000005 = some r) (hq : ∀ (v9 : Int32), r = v9 → Q (some (.int v9)) n S I J R) :
    AW G l yJ0_coder_7d493 cJ0_coder_7d493 1 (some .byte) d kc ks 0 [some (.ref 1000005)] [] n S I J R Q := by
  unfold f_J0_coder_7d493_1000005 at hf
  refine AW_gsZ dJ0_coder_7d493_0 ky_J0_38 ?_
  refine AW_if_eq 13 dJ0_coder_7d493_3 (by decide) (fun h9 => absurd h9 (by decide)) (fun _ => ?_)
  refine AW_aload_n0 dJ0_coder_7d493_6 ?_
  refine AW_scoder 2 (by decide) dJ0_coder_7d493_7 ky_J0_15 ?_
  refine AW_goto 14 dJ0_coder_7d493_10 (by decide) ?_
  exact AW_bret dJ0_coder_7d493_14 rfl (by decide) (hq _ (Option.some.inj hf).symm)
theorem w_J0_coder_7d493_1000005 {G : rk_G} {l : Launch} {d : Nat} {n : Nat} {S : rk_Sh} {I : rk_I} {J : rk_J} {R : rk_R}  {v8 : Int32} (hf : f_J0_coder_7d493_1000005 = some v8) :
    CW G l yJ0_coder_7d493 cJ0_coder_7d493 1 (some .byte) d 0 0 [.ref 1000005] n S I J R (rk_qi v8 n S I J R True) :=
  CW.of (by decide +kernel) (Nat.le_of_ble_eq_true rfl) (rk_sbs rk_sb0) (b_J0_coder_7d493_1000005 hf (fun v9 h9 => by cases h9; exact ⟨rfl, rfl, rfl, rfl, rfl, rfl, trivial⟩))
noncomputable def f_J0_length_8abf5_1000005  : Option (Int32) :=
(f_J0_coder_7d493_1000005 ).bind fun x1 =>
some (8 >>> (x1 &&& 31))
theorem b_J0_length_8abf5_1000005 {G : rk_G} {l : Launch} {d kc ks : Nat} {n : Nat} {S : rk_Sh} {I : rk_I} {J : rk_J} {R : rk_R} {Q : rk_Q}  {r : Int32} (hd : 1 ≤ d) (hf : f_J0_length_8abf5_1000005 = some r) (hq : ∀ (v9 : Int32), r = v9 → Q (some (.int v9)) n S I J R) :
    AW G l yJ0_length_8abf5 cJ0_length_8abf5 1 (some .int) d kc ks 0 [some (.ref 1000005)] [] n S I J R Q := by
  unfold f_J0_length_8abf5_1000005 at hf
  refine AW_aload_n0 dJ0_length_8abf5_0 ?_
  refine AW_svalue 2 (by decide) dJ0_length_8abf5_1 ky_J0_9 ?_
  refine AW_salen 2 (v := 8) (by decide) dJ0_length_8abf5_4 (by decide) ?_
  refine AW_aload_n0 dJ0_length_8abf5_5 ?_
  replace hf := rk_bd hf
  obtain ⟨x1, e1, hf⟩ := hf
  refine AW_iY0iz 2 (w_J0_coder_7d493_1000005 (d := 0) e1) dJ0_length_8abf5_6 kl_J0_335 (by decide) rfl (Nat.le_trans (by decide) hd) (by decide) (Nat.le_of_ble_eq_true rfl) (fun _ => ?_)
  refine AW_ishr dJ0_length_8abf5_9 ?_
  exact AW_iret dJ0_length_8abf5_10 rfl (hq _ (Option.some.inj hf).symm)
theorem w_J0_length_8abf5_1000005 {G : rk_G} {l : Launch} {d : Nat} {n : Nat} {S : rk_Sh} {I : rk_I} {J : rk_J} {R : rk_R}  {v8 : Int32} (hd : 1 ≤ d) (hf : f_J0_length_8abf5_1000005 = some v8) :
    CW G l yJ0_length_8abf5 cJ0_length_8abf5 1 (some .int) d 0 0 [.ref 1000005] n S I J R (rk_qi v8 n S I J R True) :=
  CW.of (by decide +kernel) (Nat.le_of_ble_eq_true rfl) (rk_sbs rk_sb0) (b_J0_length_8abf5_1000005 hd hf (fun v9 h9 => by cases h9; exact ⟨rfl, rfl, rfl, rfl, rfl, rfl, trivial⟩))
noncomputable def f_J1_canEncode_9a6ad (a0 : Int32) : Option (Int32) :=
if a0 < 0 then (
some 0) else (
if 255 < a0 then (
some 0) else (
some 1))
theorem b_J1_canEncode_9a6ad {G : rk_G} {l : Launch} {d kc ks : Nat} {n : Nat} {S : rk_Sh} {I : rk_I} {J : rk_J} {R : rk_R} {Q : rk_Q} {a0 : Int32} {r : Int32} (hf : f_J1_canEncode_9a6ad a0 = some r) (hq : ∀ (v9 : Int32), r = v9 → Q (some (.int v9)) n S I J R) :
    AW G l yJ1_canEncode_9a6ad cJ1_canEncode_9a6ad 1 (some .boolean) d kc ks 0 [some (.int a0)] [] n S I J R Q := by
  unfold f_J1_canEncode_9a6ad at hf
  refine AW_iload_n0 dJ1_canEncode_9a6ad_0 ?_
  refine AW_if_lt 15 dJ1_canEncode_9a6ad_1 (by decide) (fun h1 => ?_) (fun h1 => ?_)
  · replace hf := rk_it hf h1
    refine AW_iconst (v := 0) dJ1_canEncode_9a6ad_15 (by decide) ?_
    exact AW_zret dJ1_canEncode_9a6ad_16 rfl rfl (hq _ (Option.some.inj hf).symm)
  · replace hf := rk_if hf h1
    refine AW_iload_n0 dJ1_canEncode_9a6ad_4 ?_
    refine AW_sipush (v := 255) dJ1_canEncode_9a6ad_5 (by decide) ?_
    refine AW_icmp_gt 15 dJ1_canEncode_9a6ad_8 (by decide) (fun h2 => ?_) (fun h2 => ?_)
    · replace hf := rk_it hf h2
      refine AW_iconst (v := 0) dJ1_canEncode_9a6ad_15 (by decide) ?_
      exact AW_zret dJ1_canEncode_9a6ad_16 rfl rfl (hq _ (Option.some.inj hf).symm)
    · replace hf := rk_if hf h2
      refine AW_iconst (v := 1) dJ1_canEncode_9a6ad_11 (by decide) ?_
      refine AW_goto 16 dJ1_canEncode_9a6ad_12 (by decide) ?_
      exact AW_zret dJ1_canEncode_9a6ad_16 rfl rfl (hq _ (Option.some.inj hf).symm)
theorem w_J1_canEncode_9a6ad {G : rk_G} {l : Launch} {d : Nat} {n : Nat} {S : rk_Sh} {I : rk_I} {J : rk_J} {R : rk_R} {a0 : Int32} {v8 : Int32} (hf : f_J1_canEncode_9a6ad a0 = some v8) :
    CW G l yJ1_canEncode_9a6ad cJ1_canEncode_9a6ad 1 (some .boolean) d 0 0 [.int a0] n S I J R (rk_qi v8 n S I J R True) :=
  CW.of (by decide +kernel) (Nat.le_of_ble_eq_true rfl) (rk_sbs rk_sb0) (b_J1_canEncode_9a6ad hf (fun v9 h9 => by cases h9; exact ⟨rfl, rfl, rfl, rfl, rfl, rfl, trivial⟩))
noncomputable def f_J1_indexOfChar_4cfef_1000006_l7 (u3 : Int32) (u4 : Int32) (s5 : Int32) : Option ((Int32) ⊕ ((Int32) ⊕ (Int32))) :=
if u3 ≤ s5 then (
some (.inr (.inl s5))) else (
(rk_sbd 2 s5).bind fun x1 =>
if x1 = u4 then (
some (.inr (.inr s5))) else (
some (.inl (s5 + 1))))
theorem b_J1_indexOfChar_4cfef_1000006_l7 {G : rk_G} {l : Launch} {d kc ks : Nat} {n : Nat} {S : rk_Sh} {I : rk_I} {J : rk_J} {R : rk_R} {Q : rk_Q} {u3 : Int32} {u4 : Int32} {s5 : Int32} {r : (Int32) ⊕ ((Int32) ⊕ (Int32))} (hf : f_J1_indexOfChar_4cfef_1000006_l7 u3 u4 s5 = some r) (hc : ∀ (w0 : Int32), r = .inl w0 → AW G l yJ1_indexOfChar_4cfef cJ1_indexOfChar_4cfef 6 (some .int) d kc ks 7 [some (.ref 1000006), none, none, some (.int u3), some (.int u4), some (.int w0)] [] n S I J R Q) (he : ∀ (w0 : Int32), r = .inr (.inl w0) → AW G l yJ1_indexOfChar_4cfef cJ1_indexOfChar_4cfef 6 (some .int) d kc ks 31 [some (.ref 1000006), none, none, some (.int u3), some (.int u4), some (.int w0)] [] n S I J R Q) (hq : ∀ (v9 : Int32), r = .inr (.inr v9) → Q (some (.int v9)) n S I J R) :
    AW G l yJ1_indexOfChar_4cfef cJ1_indexOfChar_4cfef 6 (some .int) d kc ks 7 [some (.ref 1000006), none, none, some (.int u3), some (.int u4), some (.int s5)] [] n S I J R Q := by
  unfold f_J1_indexOfChar_4cfef_1000006_l7 at hf
  refine AW_iload_5 dJ1_indexOfChar_4cfef_7 ?_
  refine AW_iload_n3 dJ1_indexOfChar_4cfef_9 ?_
  refine AW_icmp_ge 31 dJ1_indexOfChar_4cfef_10 (by decide) (fun h1 => ?_) (fun h1 => ?_)
  · replace hf := rk_it hf h1
    refine AW_sb (rk_sbs (rk_sbn (rk_sbn (rk_sbs (rk_sbs (rk_sbs rk_sb0)))))) ?_
    exact he _ (Option.some.inj hf).symm
  · replace hf := rk_if hf h1
    refine AW_aload_n0 dJ1_indexOfChar_4cfef_13 ?_
    refine AW_iload_5 dJ1_indexOfChar_4cfef_14 ?_
    replace hf := rk_bd hf
    obtain ⟨x1, e1, hf⟩ := hf
    refine AW_sbald 2 (by decide) dJ1_indexOfChar_4cfef_16 e1 ?_
    refine AW_iload_4 dJ1_indexOfChar_4cfef_17 ?_
    refine AW_icmp_ne 25 dJ1_indexOfChar_4cfef_19 (by decide) (fun h2 => ?_) (fun h2 => ?_)
    · replace hf := rk_if hf h2
      refine AW_iinc_5 (v := 1) dJ1_indexOfChar_4cfef_25 (by decide) (by decide) rfl ?_
      refine AW_goto 7 dJ1_indexOfChar_4cfef_28 (by decide) ?_
      refine AW_sb (rk_sbs (rk_sbn (rk_sbn (rk_sbs (rk_sbs (rk_sbs rk_sb0)))))) ?_
      exact hc _ (Option.some.inj hf).symm
    · replace hf := rk_it hf h2
      refine AW_iload_5 dJ1_indexOfChar_4cfef_22 ?_
      exact AW_iret dJ1_indexOfChar_4cfef_24 rfl (hq _ (Option.some.inj hf).symm)
theorem L_J1_indexOfChar_4cfef_1000006_w7 {G : rk_G} {l : Launch} {d kc ks : Nat} {n : Nat} {S : rk_Sh} {I : rk_I} {J : rk_J} {R : rk_R} {Q : rk_Q} {u3 : Int32} {u4 : Int32} {r : (Int32) ⊕ (Int32)} (he : ∀ (w0 : Int32), r = .inl w0 → AW G l yJ1_indexOfChar_4cfef cJ1_indexOfChar_4cfef 6 (some .int) d kc ks 31 [some (.ref 1000006), none, none, some (.int u3), some (.int u4), some (.int w0)] [] n S I J R Q) (hq : ∀ (v9 : Int32), r = .inr v9 → Q (some (.int v9)) n S I J R) :
    ∀ (m9 : Nat) (s5 : Int32) , rk_loop (fun a9 => f_J1_indexOfChar_4cfef_1000006_l7 u3 u4 a9) m9 s5 = some r → AW G l yJ1_indexOfChar_4cfef cJ1_indexOfChar_4cfef 6 (some .int) d kc ks 7 [some (.ref 1000006), none, none, some (.int u3), some (.int u4), some (.int s5)] [] n S I J R Q := by
  intro m9
  induction m9 with
  | zero => intro s5 hf; cases hf
  | succ m9 ih =>
    intro s5 hf 
    obtain ⟨r9, hf, hr⟩ := rk_loop_s hf
    exact b_J1_indexOfChar_4cfef_1000006_l7  hf (fun _ h9 => by subst h9; exact ih _ hr) (fun _ h9 => by subst h9; exact he _ hr.symm) (fun _ h9 => by subst h9; exact hq _ hr.symm)
noncomputable def f_J1_indexOfChar_4cfef_1000006 (a1 : Int32) (a2 : Int32) (a3 : Int32) : Option (Int32) :=
(rk_while (fun a9 => f_J1_indexOfChar_4cfef_1000006_l7 a3 (Int8.toInt32 (Int32.toInt8 a1)) a9) a2).bind fun q9 => rk_sc q9 (fun b9 => rk_p1 b9 (fun x1 => (
some (-1)))) (fun q8 => some q8)
theorem b_J1_indexOfChar_4cfef_1000006 {G : rk_G} {l : Launch} {d kc ks : Nat} {n : Nat} {S : rk_Sh} {I : rk_I} {J : rk_J} {R : rk_R} {Q : rk_Q} {a1 : Int32} {a2 : Int32} {a3 : Int32} {r : Int32} (hf : f_J1_indexOfChar_4cfef_1000006 a1 a2 a3 = some r) (hq : ∀ (v9 : Int32), r = v9 → Q (some (.int v9)) n S I J R) :
    AW G l yJ1_indexOfChar_4cfef cJ1_indexOfChar_4cfef 6 (some .int) d kc ks 0 [some (.ref 1000006), some (.int a1), some (.int a2), some (.int a3), none, none] [] n S I J R Q := by
  unfold f_J1_indexOfChar_4cfef_1000006 at hf
  refine AW_iload_n1 dJ1_indexOfChar_4cfef_0 ?_
  refine AW_i2b dJ1_indexOfChar_4cfef_1 ?_
  refine AW_istore_4 dJ1_indexOfChar_4cfef_2 (by decide) rfl ?_
  refine AW_iload_n2 dJ1_indexOfChar_4cfef_4 ?_
  refine AW_istore_5 dJ1_indexOfChar_4cfef_5 (by decide) rfl ?_
  refine AW_sb (rk_sbs (rk_sbn (rk_sbn (rk_sbs (rk_sbs (rk_sbs rk_sb0)))))) ?_
  replace hf := rk_bd hf
  obtain ⟨q9, e1, hf⟩ := hf
  obtain ⟨m1, e1⟩ := rk_while_sp e1
  refine L_J1_indexOfChar_4cfef_1000006_w7  ?_ ?_ m1 _ e1
  · intro x1 h9
    subst h9
    replace hf := rk_scp1 hf
    refine AW_iconst (v := (-1)) dJ1_indexOfChar_4cfef_31 (by decide) ?_
    exact AW_iret dJ1_indexOfChar_4cfef_32 rfl (hq _ (Option.some.inj hf).symm)
  · intro v7 h9
    subst h9
    replace hf := rk_sc_r hf
    exact hq _ (Option.some.inj hf).symm
theorem w_J1_indexOfChar_4cfef_1000006 {G : rk_G} {l : Launch} {d : Nat} {n : Nat} {S : rk_Sh} {I : rk_I} {J : rk_J} {R : rk_R} {a1 : Int32} {a2 : Int32} {a3 : Int32} {v8 : Int32} (hf : f_J1_indexOfChar_4cfef_1000006 a1 a2 a3 = some v8) :
    CW G l yJ1_indexOfChar_4cfef cJ1_indexOfChar_4cfef 6 (some .int) d 0 0 [.ref 1000006, .int a1, .int a2, .int a3] n S I J R (rk_qi v8 n S I J R True) :=
  CW.of (by decide +kernel) (Nat.le_of_ble_eq_true rfl) (rk_sbs (rk_sbs (rk_sbs (rk_sbs (rk_sbe (rk_sbe rk_sb0)))))) (b_J1_indexOfChar_4cfef_1000006 hf (fun v9 h9 => by cases h9; exact ⟨rfl, rfl, rfl, rfl, rfl, rfl, trivial⟩))
noncomputable def f_J1_indexOf_4cfef_1000006 (a1 : Int32) (a2 : Int32) (a3 : Int32) : Option (Int32) :=
(f_J1_canEncode_9a6ad a1).bind fun x1 =>
if x1 = 0 then (
some (-1)) else (
if (rk_max a2 0) < (rk_min a3 8) then (
(f_J1_indexOfChar_4cfef_1000006 a1 (rk_max a2 0) (rk_min a3 8)).bind fun x2 =>
some x2) else (
some (-1)))
theorem b_J1_indexOf_4cfef_1000006 {G : rk_G} {l : Launch} {d kc ks : Nat} {n : Nat} {S : rk_Sh} {I : rk_I} {J : rk_J} {R : rk_R} {Q : rk_Q} {a1 : Int32} {a2 : Int32} {a3 : Int32} {r : Int32} (hd : 1 ≤ d) (hf : f_J1_indexOf_4cfef_1000006 a1 a2 a3 = some r) (hq : ∀ (v9 : Int32), r = v9 → Q (some (.int v9)) n S I J R) :
    AW G l yJ1_indexOf_4cfef cJ1_indexOf_4cfef 4 (some .int) d kc ks 0 [some (.ref 1000006), some (.int a1), some (.int a2), some (.int a3)] [] n S I J R Q := by
  unfold f_J1_indexOf_4cfef_1000006 at hf
  refine AW_iload_n1 dJ1_indexOf_4cfef_0 ?_
  replace hf := rk_bd hf
  obtain ⟨x1, e1, hf⟩ := hf
  refine AW_iS1iz (w_J1_canEncode_9a6ad (d := 0) e1) dJ1_indexOf_4cfef_1 kl_J1_88 (Nat.le_trans (by decide) hd) (by decide) (Nat.le_of_ble_eq_true rfl) (fun _ => ?_)
  refine AW_if_ne 9 dJ1_indexOf_4cfef_4 (by decide) (fun h1 => ?_) (fun h1 => ?_)
  · replace hf := rk_if hf h1
    refine AW_iload_n2 dJ1_indexOf_4cfef_9 ?_
    refine AW_iconst (v := 0) dJ1_indexOf_4cfef_10 (by decide) ?_
    refine AW_mmax dJ1_indexOf_4cfef_11 km_J1_92 (Nat.le_trans (by decide) hd) (Nat.le_of_ble_eq_true rfl) ?_
    refine AW_istore_n2 dJ1_indexOf_4cfef_14 (by decide) rfl ?_
    refine AW_iload_n3 dJ1_indexOf_4cfef_15 ?_
    refine AW_aload_n0 dJ1_indexOf_4cfef_16 ?_
    refine AW_salen 2 (v := 8) (by decide) dJ1_indexOf_4cfef_17 (by decide) ?_
    refine AW_mmin dJ1_indexOf_4cfef_18 km_J1_38 (Nat.le_trans (by decide) hd) (Nat.le_of_ble_eq_true rfl) ?_
    refine AW_istore_n3 dJ1_indexOf_4cfef_21 (by decide) rfl ?_
    refine AW_iload_n2 dJ1_indexOf_4cfef_22 ?_
    refine AW_iload_n3 dJ1_indexOf_4cfef_23 ?_
    refine AW_icmp_lt 29 dJ1_indexOf_4cfef_24 (by decide) (fun h2 => ?_) (fun h2 => ?_)
    · replace hf := rk_it hf h2
      refine AW_aload_n0 dJ1_indexOf_4cfef_29 ?_
      refine AW_iload_n1 dJ1_indexOf_4cfef_30 ?_
      refine AW_iload_n2 dJ1_indexOf_4cfef_31 ?_
      refine AW_iload_n3 dJ1_indexOf_4cfef_32 ?_
      replace hf := rk_bd hf
      obtain ⟨x2, e2, hf⟩ := hf
      refine AW_iS4iz (w_J1_indexOfChar_4cfef_1000006 (d := 0) e2) dJ1_indexOf_4cfef_33 kl_J1_95 (Nat.le_trans (by decide) hd) (by decide) (Nat.le_of_ble_eq_true rfl) (fun _ => ?_)
      exact AW_iret dJ1_indexOf_4cfef_36 rfl (hq _ (Option.some.inj hf).symm)
    · replace hf := rk_if hf h2
      refine AW_iconst (v := (-1)) dJ1_indexOf_4cfef_27 (by decide) ?_
      exact AW_iret dJ1_indexOf_4cfef_28 rfl (hq _ (Option.some.inj hf).symm)
  · replace hf := rk_it hf h1
    refine AW_iconst (v := (-1)) dJ1_indexOf_4cfef_7 (by decide) ?_
    exact AW_iret dJ1_indexOf_4cfef_8 rfl (hq _ (Option.some.inj hf).symm)
theorem w_J1_indexOf_4cfef_1000006 {G : rk_G} {l : Launch} {d : Nat} {n : Nat} {S : rk_Sh} {I : rk_I} {J : rk_J} {R : rk_R} {a1 : Int32} {a2 : Int32} {a3 : Int32} {v8 : Int32} (hd : 1 ≤ d) (hf : f_J1_indexOf_4cfef_1000006 a1 a2 a3 = some v8) :
    CW G l yJ1_indexOf_4cfef cJ1_indexOf_4cfef 4 (some .int) d 0 0 [.ref 1000006, .int a1, .int a2, .int a3] n S I J R (rk_qi v8 n S I J R True) :=
  CW.of (by decide +kernel) (Nat.le_of_ble_eq_true rfl) (rk_sbs (rk_sbs (rk_sbs (rk_sbs rk_sb0)))) (b_J1_indexOf_4cfef_1000006 hd hf (fun v9 h9 => by cases h9; exact ⟨rfl, rfl, rfl, rfl, rfl, rfl, trivial⟩))
noncomputable def f_J0_indexOf_7cf53_1000005 (a1 : Int32) (a2 : Int32) : Option (Int32) :=
(f_J0_isLatin1_aae02_1000005 ).bind fun x1 =>
if x1 = 0 then (
(f_J0_length_8abf5_1000005 ).bind fun x2 =>
none) else (
(f_J0_length_8abf5_1000005 ).bind fun x3 =>
(f_J1_indexOf_4cfef_1000006 a1 a2 x3).bind fun x4 =>
some x4)
theorem b_J0_indexOf_7cf53_1000005 {G : rk_G} {l : Launch} {d kc ks : Nat} {n : Nat} {S : rk_Sh} {I : rk_I} {J : rk_J} {R : rk_R} {Q : rk_Q} {a1 : Int32} {a2 : Int32} {r : Int32} (hd : 2 ≤ d) (hf : f_J0_indexOf_7cf53_1000005 a1 a2 = some r) (hq : ∀ (v9 : Int32), r = v9 → Q (some (.int v9)) n S I J R) :
    AW G l yJ0_indexOf_7cf53 cJ0_indexOf_7cf53 3 (some .int) d kc ks 0 [some (.ref 1000005), some (.int a1), some (.int a2)] [] n S I J R Q := by
  unfold f_J0_indexOf_7cf53_1000005 at hf
  refine AW_aload_n0 dJ0_indexOf_7cf53_0 ?_
  replace hf := rk_bd hf
  obtain ⟨x1, e1, hf⟩ := hf
  refine AW_iY0iz 2 (w_J0_isLatin1_aae02_1000005 (d := 0) e1) dJ0_indexOf_7cf53_1 kl_J0_492 (by decide) rfl (Nat.le_trans (by decide) hd) (by decide) (Nat.le_of_ble_eq_true rfl) (fun _ => ?_)
  refine AW_if_eq 23 dJ0_indexOf_7cf53_4 (by decide) (fun h1 => ?_) (fun h1 => ?_)
  · replace hf := rk_it hf h1
    refine AW_aload_n0 dJ0_indexOf_7cf53_23 ?_
    refine AW_svalue 2 (by decide) dJ0_indexOf_7cf53_24 ky_J0_9 ?_
    refine AW_iload_n1 dJ0_indexOf_7cf53_27 ?_
    refine AW_iload_n2 dJ0_indexOf_7cf53_28 ?_
    refine AW_aload_n0 dJ0_indexOf_7cf53_29 ?_
    replace hf := rk_bd hf
    obtain ⟨x2, e2, hf⟩ := hf
    refine AW_iY0iz 2 (w_J0_length_8abf5_1000005 (d := 1) (Nat.le_refl _) e2) dJ0_indexOf_7cf53_30 kl_J0_505 (by decide) rfl (Nat.le_trans (by decide) hd) (by decide) (Nat.le_of_ble_eq_true rfl) (fun _ => ?_)
    cases hf
  · replace hf := rk_if hf h1
    refine AW_aload_n0 dJ0_indexOf_7cf53_7 ?_
    refine AW_svalue 2 (by decide) dJ0_indexOf_7cf53_8 ky_J0_9 ?_
    refine AW_iload_n1 dJ0_indexOf_7cf53_11 ?_
    refine AW_iload_n2 dJ0_indexOf_7cf53_12 ?_
    refine AW_aload_n0 dJ0_indexOf_7cf53_13 ?_
    replace hf := rk_bd hf
    obtain ⟨x3, e3, hf⟩ := hf
    refine AW_iY0iz 2 (w_J0_length_8abf5_1000005 (d := 1) (Nat.le_refl _) e3) dJ0_indexOf_7cf53_14 kl_J0_505 (by decide) rfl (Nat.le_trans (by decide) hd) (by decide) (Nat.le_of_ble_eq_true rfl) (fun _ => ?_)
    replace hf := rk_bd hf
    obtain ⟨x4, e4, hf⟩ := hf
    refine AW_iS4iz (w_J1_indexOf_4cfef_1000006 (d := 1) (Nat.le_refl _) e4) dJ0_indexOf_7cf53_17 kl_J0_637 (Nat.le_trans (by decide) hd) (by decide) (Nat.le_of_ble_eq_true rfl) (fun _ => ?_)
    refine AW_goto 36 dJ0_indexOf_7cf53_20 (by decide) ?_
    exact AW_iret dJ0_indexOf_7cf53_36 rfl (hq _ (Option.some.inj hf).symm)
theorem w_J0_indexOf_7cf53_1000005 {G : rk_G} {l : Launch} {d : Nat} {n : Nat} {S : rk_Sh} {I : rk_I} {J : rk_J} {R : rk_R} {a1 : Int32} {a2 : Int32} {v8 : Int32} (hd : 2 ≤ d) (hf : f_J0_indexOf_7cf53_1000005 a1 a2 = some v8) :
    CW G l yJ0_indexOf_7cf53 cJ0_indexOf_7cf53 3 (some .int) d 0 0 [.ref 1000005, .int a1, .int a2] n S I J R (rk_qi v8 n S I J R True) :=
  CW.of (by decide +kernel) (Nat.le_of_ble_eq_true rfl) (rk_sbs (rk_sbs (rk_sbs rk_sb0))) (b_J0_indexOf_7cf53_1000005 hd hf (fun v9 h9 => by cases h9; exact ⟨rfl, rfl, rfl, rfl, rfl, rfl, trivial⟩))
noncomputable def f_J0_indexOf_0f7a4_1000005 (a1 : Int32) : Option (Int32) :=
(f_J0_indexOf_7cf53_1000005 a1 0).bind fun x1 =>
some x1
theorem b_J0_indexOf_0f7a4_1000005 {G : rk_G} {l : Launch} {d kc ks : Nat} {n : Nat} {S : rk_Sh} {I : rk_I} {J : rk_J} {R : rk_R} {Q : rk_Q} {a1 : Int32} {r : Int32} (hd : 3 ≤ d) (hf : f_J0_indexOf_0f7a4_1000005 a1 = some r) (hq : ∀ (v9 : Int32), r = v9 → Q (some (.int v9)) n S I J R) :
    AW G l yJ0_indexOf_0f7a4 cJ0_indexOf_0f7a4 2 (some .int) d kc ks 0 [some (.ref 1000005), some (.int a1)] [] n S I J R Q := by
  unfold f_J0_indexOf_0f7a4_1000005 at hf
  refine AW_aload_n0 dJ0_indexOf_0f7a4_0 ?_
  refine AW_iload_n1 dJ0_indexOf_0f7a4_1 ?_
  refine AW_iconst (v := 0) dJ0_indexOf_0f7a4_2 (by decide) ?_
  replace hf := rk_bd hf
  obtain ⟨x1, e1, hf⟩ := hf
  refine AW_iY2iz 2 (w_J0_indexOf_7cf53_1000005 (d := 2) (Nat.le_refl _) e1) dJ0_indexOf_0f7a4_3 kl_J0_633 (by decide) rfl (Nat.le_trans (by decide) hd) (by decide) (Nat.le_of_ble_eq_true rfl) (fun _ => ?_)
  exact AW_iret dJ0_indexOf_0f7a4_6 rfl (hq _ (Option.some.inj hf).symm)
theorem w_J0_indexOf_0f7a4_1000005 {G : rk_G} {l : Launch} {d : Nat} {n : Nat} {S : rk_Sh} {I : rk_I} {J : rk_J} {R : rk_R} {a1 : Int32} {v8 : Int32} (hd : 3 ≤ d) (hf : f_J0_indexOf_0f7a4_1000005 a1 = some v8) :
    CW G l yJ0_indexOf_0f7a4 cJ0_indexOf_0f7a4 2 (some .int) d 0 0 [.ref 1000005, .int a1] n S I J R (rk_qi v8 n S I J R True) :=
  CW.of (by decide +kernel) (Nat.le_of_ble_eq_true rfl) (rk_sbs (rk_sbs rk_sb0)) (b_J0_indexOf_0f7a4_1000005 hd hf (fun v9 h9 => by cases h9; exact ⟨rfl, rfl, rfl, rfl, rfl, rfl, trivial⟩))
noncomputable def f_X2_numberOf_l5 (I : rk_I) (u2 : Int32) (s3 : Int32) (s4 : Int32) : Option ((Int32 × Int32) ⊕ (Int32 × Int32)) :=
if u2 ≤ s4 then (
some (.inr (s3, s4))) else (
(rk_rd I 5 160 s4).bind fun x1 =>
some (.inl ((((s3 * 10) + x1) - 48), (s4 + 1))))
theorem b_X2_numberOf_l5 {G : rk_G} {l : Launch} {d kc ks : Nat} {n : Nat} {S : rk_Sh} {I : rk_I} {J : rk_J} {R : rk_R} {Q : rk_Q} {u2 : Int32} {s3 : Int32} {s4 : Int32} {r : (Int32 × Int32) ⊕ (Int32 × Int32)} (hL : rk_LC S R) (hf : f_X2_numberOf_l5 I u2 s3 s4 = some r) (hc : ∀ (w0 : Int32) (w1 : Int32), r = .inl (w0, w1) → AW G l yX2_numberOf cX2_numberOf 5 (some .int) d kc ks 5 [some (.ref 4), none, some (.int u2), some (.int w0), some (.int w1)] [] n S I J R Q) (he : ∀ (w0 : Int32) (w1 : Int32), r = .inr (w0, w1) → AW G l yX2_numberOf cX2_numberOf 5 (some .int) d kc ks 33 [some (.ref 4), none, some (.int u2), some (.int w0), some (.int w1)] [] n S I J R Q) :
    AW G l yX2_numberOf cX2_numberOf 5 (some .int) d kc ks 5 [some (.ref 4), none, some (.int u2), some (.int s3), some (.int s4)] [] n S I J R Q := by
  unfold f_X2_numberOf_l5 at hf
  refine AW_iload_4 dX2_numberOf_5 ?_
  refine AW_iload_n2 dX2_numberOf_7 ?_
  refine AW_icmp_ge 33 dX2_numberOf_8 (by decide) (fun h1 => ?_) (fun h1 => ?_)
  · replace hf := rk_it hf h1
    refine AW_sb (rk_sbs (rk_sbn (rk_sbs (rk_sbs (rk_sbs rk_sb0))))) ?_
    exact he _ _ (Option.some.inj hf).symm
  · replace hf := rk_if hf h1
    refine AW_iload_n3 dX2_numberOf_11 ?_
    refine AW_bipush (v := 10) dX2_numberOf_12 (by decide) ?_
    refine AW_imul dX2_numberOf_14 ?_
    refine AW_aload_n0 dX2_numberOf_15 ?_
    refine AW_getR dX2_numberOf_16 kf_X2_11 rfl (hL.1 4 (by decide)) (by decide) (hL.2 4 0 5 rfl) ?_
    refine AW_iload_4 dX2_numberOf_19 ?_
    replace hf := rk_bd hf
    obtain ⟨x1, e1, hf⟩ := hf
    refine AW_rd dX2_numberOf_21 (hL.1 5 (by decide)) e1 ?_
    refine AW_iadd dX2_numberOf_22 ?_
    refine AW_bipush (v := 48) dX2_numberOf_23 (by decide) ?_
    refine AW_isub dX2_numberOf_25 ?_
    refine AW_istore_n3 dX2_numberOf_26 (by decide) rfl ?_
    refine AW_iinc_4 (v := 1) dX2_numberOf_27 (by decide) (by decide) rfl ?_
    refine AW_goto 5 dX2_numberOf_30 (by decide) ?_
    refine AW_sb (rk_sbs (rk_sbn (rk_sbs (rk_sbs (rk_sbs rk_sb0))))) ?_
    exact hc _ _ (Option.some.inj hf).symm
theorem L_X2_numberOf_w5 {G : rk_G} {l : Launch} {d kc ks : Nat} {n : Nat} {S : rk_Sh} {I : rk_I} {J : rk_J} {R : rk_R} {Q : rk_Q} {u2 : Int32} {r : Int32 × Int32} (hL : rk_LC S R) (he : ∀ (w0 : Int32) (w1 : Int32), r = (w0, w1) → AW G l yX2_numberOf cX2_numberOf 5 (some .int) d kc ks 33 [some (.ref 4), none, some (.int u2), some (.int w0), some (.int w1)] [] n S I J R Q) :
    ∀ (m9 : Nat) (s3 : Int32) (s4 : Int32) , rk_loop (fun a9 => f_X2_numberOf_l5 I u2 a9.1 a9.2) m9 (s3, s4) = some r → AW G l yX2_numberOf cX2_numberOf 5 (some .int) d kc ks 5 [some (.ref 4), none, some (.int u2), some (.int s3), some (.int s4)] [] n S I J R Q := by
  intro m9
  induction m9 with
  | zero => intro s3 s4 hf; cases hf
  | succ m9 ih =>
    intro s3 s4 hf 
    obtain ⟨r9, hf, hr⟩ := rk_loop_s hf
    exact b_X2_numberOf_l5 hL hf (fun _ _ h9 => by subst h9; exact ih _ _ hr) (fun _ _ h9 => by subst h9; exact he _ _ hr.symm)
noncomputable def f_X2_numberOf (I : rk_I) (a1 : Int32) (a2 : Int32) : Option (Int32) :=
rk_b2 (rk_while (fun a9 => f_X2_numberOf_l5 I a2 a9.1 a9.2) (0, a1)) fun x1 x2 =>
some x1
theorem b_X2_numberOf {G : rk_G} {l : Launch} {d kc ks : Nat} {n : Nat} {S : rk_Sh} {I : rk_I} {J : rk_J} {R : rk_R} {Q : rk_Q} {a1 : Int32} {a2 : Int32} {r : Int32} (hL : rk_LC S R) (hf : f_X2_numberOf I a1 a2 = some r) (hq : ∀ (v9 : Int32), r = v9 → Q (some (.int v9)) n S I J R) :
    AW G l yX2_numberOf cX2_numberOf 5 (some .int) d kc ks 0 [some (.ref 4), some (.int a1), some (.int a2), none, none] [] n S I J R Q := by
  unfold f_X2_numberOf at hf
  refine AW_iconst (v := 0) dX2_numberOf_0 (by decide) ?_
  refine AW_istore_n3 dX2_numberOf_1 (by decide) rfl ?_
  refine AW_iload_n1 dX2_numberOf_2 ?_
  refine AW_istore_4 dX2_numberOf_3 (by decide) rfl ?_
  refine AW_sb (rk_sbs (rk_sbn (rk_sbs (rk_sbs (rk_sbs rk_sb0))))) ?_
  replace hf := rk_bd2 hf
  obtain ⟨x1, x2, e1, hf⟩ := hf
  obtain ⟨m1, e1⟩ := rk_while_sp e1
  refine L_X2_numberOf_w5 hL ?_ m1 _ _ e1
  intro x1 x2 h9
  cases h9
  refine AW_iload_n3 dX2_numberOf_33 ?_
  exact AW_iret dX2_numberOf_34 rfl (hq _ (Option.some.inj hf).symm)
theorem w_X2_numberOf {G : rk_G} {l : Launch} {d : Nat} {n : Nat} {S : rk_Sh} {I : rk_I} {J : rk_J} {R : rk_R} {a1 : Int32} {a2 : Int32} {v8 : Int32} (hL : rk_LC S R) (hf : f_X2_numberOf I a1 a2 = some v8) :
    CW G l yX2_numberOf cX2_numberOf 5 (some .int) d 0 0 [.ref 4, .int a1, .int a2] n S I J R (rk_qi v8 n S I J R True) :=
  CW.of (by decide +kernel) (Nat.le_of_ble_eq_true rfl) (rk_sbs (rk_sbs (rk_sbs (rk_sbe (rk_sbe rk_sb0))))) (b_X2_numberOf hL hf (fun v9 h9 => by cases h9; exact ⟨rfl, rfl, rfl, rfl, rfl, rfl, trivial⟩))
noncomputable def f_J0_coder_7d493_1000003  : Option (Int32) :=
some 0
theorem b_J0_coder_7d493_1000003 {G : rk_G} {l : Launch} {d kc ks : Nat} {n : Nat} {S : rk_Sh} {I : rk_I} {J : rk_J} {R : rk_R} {Q : rk_Q}  {r : Int32} (hf : f_J0_coder_7d493_1000003 = some r) (hq : ∀ (v9 : Int32), r = v9 → Q (some (.int v9)) n S I J R) :
    AW G l yJ0_coder_7d493 cJ0_coder_7d493 1 (some .byte) d kc ks 0 [some (.ref 1000003)] [] n S I J R Q := by
  unfold f_J0_coder_7d493_1000003 at hf
  refine AW_gsZ dJ0_coder_7d493_0 ky_J0_38 ?_
  refine AW_if_eq 13 dJ0_coder_7d493_3 (by decide) (fun h9 => absurd h9 (by decide)) (fun _ => ?_)
  refine AW_aload_n0 dJ0_coder_7d493_6 ?_
  refine AW_scoder 1 (by decide) dJ0_coder_7d493_7 ky_J0_15 ?_
  refine AW_goto 14 dJ0_coder_7d493_10 (by decide) ?_
  exact AW_bret dJ0_coder_7d493_14 rfl (by decide) (hq _ (Option.some.inj hf).symm)
theorem w_J0_coder_7d493_1000003 {G : rk_G} {l : Launch} {d : Nat} {n : Nat} {S : rk_Sh} {I : rk_I} {J : rk_J} {R : rk_R}  {v8 : Int32} (hf : f_J0_coder_7d493_1000003 = some v8) :
    CW G l yJ0_coder_7d493 cJ0_coder_7d493 1 (some .byte) d 0 0 [.ref 1000003] n S I J R (rk_qi v8 n S I J R True) :=
  CW.of (by decide +kernel) (Nat.le_of_ble_eq_true rfl) (rk_sbs rk_sb0) (b_J0_coder_7d493_1000003 hf (fun v9 h9 => by cases h9; exact ⟨rfl, rfl, rfl, rfl, rfl, rfl, trivial⟩))
noncomputable def f_J0_length_8abf5_1000003  : Option (Int32) :=
(f_J0_coder_7d493_1000003 ).bind fun x1 =>
some (57 >>> (x1 &&& 31))
theorem b_J0_length_8abf5_1000003 {G : rk_G} {l : Launch} {d kc ks : Nat} {n : Nat} {S : rk_Sh} {I : rk_I} {J : rk_J} {R : rk_R} {Q : rk_Q}  {r : Int32} (hd : 1 ≤ d) (hf : f_J0_length_8abf5_1000003 = some r) (hq : ∀ (v9 : Int32), r = v9 → Q (some (.int v9)) n S I J R) :
    AW G l yJ0_length_8abf5 cJ0_length_8abf5 1 (some .int) d kc ks 0 [some (.ref 1000003)] [] n S I J R Q := by
  unfold f_J0_length_8abf5_1000003 at hf
  refine AW_aload_n0 dJ0_length_8abf5_0 ?_
  refine AW_svalue 1 (by decide) dJ0_length_8abf5_1 ky_J0_9 ?_
  refine AW_salen 1 (v := 57) (by decide) dJ0_length_8abf5_4 (by decide) ?_
  refine AW_aload_n0 dJ0_length_8abf5_5 ?_
  replace hf := rk_bd hf
  obtain ⟨x1, e1, hf⟩ := hf
  refine AW_iY0iz 1 (w_J0_coder_7d493_1000003 (d := 0) e1) dJ0_length_8abf5_6 kl_J0_335 (by decide) rfl (Nat.le_trans (by decide) hd) (by decide) (Nat.le_of_ble_eq_true rfl) (fun _ => ?_)
  refine AW_ishr dJ0_length_8abf5_9 ?_
  exact AW_iret dJ0_length_8abf5_10 rfl (hq _ (Option.some.inj hf).symm)
theorem w_J0_length_8abf5_1000003 {G : rk_G} {l : Launch} {d : Nat} {n : Nat} {S : rk_Sh} {I : rk_I} {J : rk_J} {R : rk_R}  {v8 : Int32} (hd : 1 ≤ d) (hf : f_J0_length_8abf5_1000003 = some v8) :
    CW G l yJ0_length_8abf5 cJ0_length_8abf5 1 (some .int) d 0 0 [.ref 1000003] n S I J R (rk_qi v8 n S I J R True) :=
  CW.of (by decide +kernel) (Nat.le_of_ble_eq_true rfl) (rk_sbs rk_sb0) (b_J0_length_8abf5_1000003 hd hf (fun v9 h9 => by cases h9; exact ⟨rfl, rfl, rfl, rfl, rfl, rfl, trivial⟩))
noncomputable def f_J0_isLatin1_aae02_1000003  : Option (Int32) :=
some 1
theorem b_J0_isLatin1_aae02_1000003 {G : rk_G} {l : Launch} {d kc ks : Nat} {n : Nat} {S : rk_Sh} {I : rk_I} {J : rk_J} {R : rk_R} {Q : rk_Q}  {r : Int32} (hf : f_J0_isLatin1_aae02_1000003 = some r) (hq : ∀ (v9 : Int32), r = v9 → Q (some (.int v9)) n S I J R) :
    AW G l yJ0_isLatin1_aae02 cJ0_isLatin1_aae02 1 (some .boolean) d kc ks 0 [some (.ref 1000003)] [] n S I J R Q := by
  unfold f_J0_isLatin1_aae02_1000003 at hf
  refine AW_gsZ dJ0_isLatin1_aae02_0 ky_J0_38 ?_
  refine AW_if_eq 17 dJ0_isLatin1_aae02_3 (by decide) (fun h9 => absurd h9 (by decide)) (fun _ => ?_)
  refine AW_aload_n0 dJ0_isLatin1_aae02_6 ?_
  refine AW_scoder 1 (by decide) dJ0_isLatin1_aae02_7 ky_J0_15 ?_
  refine AW_if_ne 17 dJ0_isLatin1_aae02_10 (by decide) (fun h9 => absurd h9 (by decide)) (fun _ => ?_)
  refine AW_iconst (v := 1) dJ0_isLatin1_aae02_13 (by decide) ?_
  refine AW_goto 18 dJ0_isLatin1_aae02_14 (by decide) ?_
  exact AW_zret dJ0_isLatin1_aae02_18 rfl rfl (hq _ (Option.some.inj hf).symm)
theorem w_J0_isLatin1_aae02_1000003 {G : rk_G} {l : Launch} {d : Nat} {n : Nat} {S : rk_Sh} {I : rk_I} {J : rk_J} {R : rk_R}  {v8 : Int32} (hf : f_J0_isLatin1_aae02_1000003 = some v8) :
    CW G l yJ0_isLatin1_aae02 cJ0_isLatin1_aae02 1 (some .boolean) d 0 0 [.ref 1000003] n S I J R (rk_qi v8 n S I J R True) :=
  CW.of (by decide +kernel) (Nat.le_of_ble_eq_true rfl) (rk_sbs rk_sb0) (b_J0_isLatin1_aae02_1000003 hf (fun v9 h9 => by cases h9; exact ⟨rfl, rfl, rfl, rfl, rfl, rfl, trivial⟩))
noncomputable def f_J3_checkIndex_8e157 (a0 : Int32) (a1 : Int32) : Option (Int32) :=
if a0 < 0 then (
none) else (
if a0 < a1 then (
some a0) else (
none))
theorem b_J3_checkIndex_8e157 {G : rk_G} {l : Launch} {d kc ks : Nat} {n : Nat} {S : rk_Sh} {I : rk_I} {J : rk_J} {R : rk_R} {Q : rk_Q} {a0 : Int32} {a1 : Int32} {r : Int32} (hf : f_J3_checkIndex_8e157 a0 a1 = some r) (hq : ∀ (v9 : Int32), r = v9 → Q (some (.int v9)) n S I J R) :
    AW G l yJ3_checkIndex_8e157 cJ3_checkIndex_8e157 3 (some .int) d kc ks 0 [some (.int a0), some (.int a1), none] [] n S I J R Q := by
  unfold f_J3_checkIndex_8e157 at hf
  refine AW_iload_n0 dJ3_checkIndex_8e157_0 ?_
  refine AW_if_lt 9 dJ3_checkIndex_8e157_1 (by decide) (fun h1 => ?_) (fun h1 => ?_)
  · replace hf := rk_it hf h1
    cases hf
  · replace hf := rk_if hf h1
    refine AW_iload_n0 dJ3_checkIndex_8e157_4 ?_
    refine AW_iload_n1 dJ3_checkIndex_8e157_5 ?_
    refine AW_icmp_lt 16 dJ3_checkIndex_8e157_6 (by decide) (fun h2 => ?_) (fun h2 => ?_)
    · replace hf := rk_it hf h2
      refine AW_iload_n0 dJ3_checkIndex_8e157_16 ?_
      exact AW_iret dJ3_checkIndex_8e157_17 rfl (hq _ (Option.some.inj hf).symm)
    · replace hf := rk_if hf h2
      cases hf
theorem w_J3_checkIndex_8e157 {G : rk_G} {l : Launch} {d : Nat} {n : Nat} {S : rk_Sh} {I : rk_I} {J : rk_J} {R : rk_R} {a0 : Int32} {a1 : Int32} {a2 : Option Nat} {v8 : Int32} (hf : f_J3_checkIndex_8e157 a0 a1 = some v8) :
    CW G l yJ3_checkIndex_8e157 cJ3_checkIndex_8e157 3 (some .int) d 0 0 [.int a0, .int a1, rk_o a2] n S I J R (rk_qi v8 n S I J R True) :=
  by
  cases a2 <;> exact CW.of (by decide +kernel) (Nat.le_of_ble_eq_true rfl) (rk_sbs (rk_sbs (rk_sbn rk_sb0))) (b_J3_checkIndex_8e157 hf (fun v9 h9 => by cases h9; exact ⟨rfl, rfl, rfl, rfl, rfl, rfl, trivial⟩))
noncomputable def f_J0_checkIndex_df160 (a0 : Int32) (a1 : Int32) : Option (Unit) :=
(f_J3_checkIndex_8e157 a0 a1).bind fun x1 =>
some ()
theorem b_J0_checkIndex_df160 {G : rk_G} {l : Launch} {d kc ks : Nat} {n : Nat} {S : rk_Sh} {I : rk_I} {J : rk_J} {R : rk_R} {Q : rk_Q} {a0 : Int32} {a1 : Int32} {r : Unit} (hd : 1 ≤ d) (hf : f_J0_checkIndex_df160 a0 a1 = some r) (hq : r = () → Q (none) n S I J R) :
    AW G l yJ0_checkIndex_df160 cJ0_checkIndex_df160 2 none d kc ks 0 [some (.int a0), some (.int a1)] [] n S I J R Q := by
  unfold f_J0_checkIndex_df160 at hf
  refine AW_iload_n0 dJ0_checkIndex_df160_0 ?_
  refine AW_iload_n1 dJ0_checkIndex_df160_1 ?_
  refine AW_gsF dJ0_checkIndex_df160_2 ky_J0_1053 (fun z1 => ?_)
  replace hf := rk_bd hf
  obtain ⟨x1, e1, hf⟩ := hf
  refine AW_iS3iz (w_J3_checkIndex_8e157 (d := 0) e1) dJ0_checkIndex_df160_5 kl_J0_1059 (Nat.le_trans (by decide) hd) (by decide) (Nat.le_of_ble_eq_true rfl) (fun _ => ?_)
  refine AW_pop dJ0_checkIndex_df160_8 rfl ?_
  exact AW_vret dJ0_checkIndex_df160_9 rfl (hq  (Option.some.inj hf).symm)
theorem w_J0_checkIndex_df160 {G : rk_G} {l : Launch} {d : Nat} {n : Nat} {S : rk_Sh} {I : rk_I} {J : rk_J} {R : rk_R} {a0 : Int32} {a1 : Int32} (hd : 1 ≤ d) (hf : f_J0_checkIndex_df160 a0 a1 = some ()) :
    CW G l yJ0_checkIndex_df160 cJ0_checkIndex_df160 2 none d 0 0 [.int a0, .int a1] n S I J R (rk_qv n S I J R True) :=
  CW.of (by decide +kernel) (Nat.le_of_ble_eq_true rfl) (rk_sbs (rk_sbs rk_sb0)) (b_J0_checkIndex_df160 hd hf (fun h9 => by cases h9; exact ⟨rfl, rfl, rfl, rfl, rfl, rfl, trivial⟩))
noncomputable def f_J1_charAt_3b067_1000004 (a1 : Int32) : Option (Int32) :=
(f_J0_checkIndex_df160 a1 57).bind fun _ =>
(rk_sbd 1 a1).bind fun x1 =>
(rk_ch (rk_ic (x1 &&& 255))).bind fun x2 =>
some x2
theorem b_J1_charAt_3b067_1000004 {G : rk_G} {l : Launch} {d kc ks : Nat} {n : Nat} {S : rk_Sh} {I : rk_I} {J : rk_J} {R : rk_R} {Q : rk_Q} {a1 : Int32} {r : Int32} (hd : 2 ≤ d) (hf : f_J1_charAt_3b067_1000004 a1 = some r) (hq : ∀ (v9 : Int32), r = v9 → Q (some (.int v9)) n S I J R) :
    AW G l yJ1_charAt_3b067 cJ1_charAt_3b067 2 (some .char) d kc ks 0 [some (.ref 1000004), some (.int a1)] [] n S I J R Q := by
  unfold f_J1_charAt_3b067_1000004 at hf
  refine AW_iload_n1 dJ1_charAt_3b067_0 ?_
  refine AW_aload_n0 dJ1_charAt_3b067_1 ?_
  refine AW_salen 1 (v := 57) (by decide) dJ1_charAt_3b067_2 (by decide) ?_
  replace hf := rk_bd hf
  obtain ⟨_, e1, hf⟩ := hf
  refine AW_iS2vz (w_J0_checkIndex_df160 (d := 1) (Nat.le_refl _) e1) dJ1_charAt_3b067_3 kl_J1_9 (Nat.le_trans (by decide) hd) (by decide) (Nat.le_of_ble_eq_true rfl) (fun _ => ?_)
  refine AW_aload_n0 dJ1_charAt_3b067_6 ?_
  refine AW_iload_n1 dJ1_charAt_3b067_7 ?_
  replace hf := rk_bd hf
  obtain ⟨x1, e2, hf⟩ := hf
  refine AW_sbald 1 (by decide) dJ1_charAt_3b067_8 e2 ?_
  refine AW_sipush (v := 255) dJ1_charAt_3b067_9 (by decide) ?_
  refine AW_iand dJ1_charAt_3b067_12 ?_
  refine AW_ic dJ1_charAt_3b067_13 ?_
  replace hf := rk_bd hf
  obtain ⟨x2, e3, hf⟩ := hf
  exact AW_cr dJ1_charAt_3b067_14 rfl e3 (hq _ (Option.some.inj hf).symm)
theorem w_J1_charAt_3b067_1000004 {G : rk_G} {l : Launch} {d : Nat} {n : Nat} {S : rk_Sh} {I : rk_I} {J : rk_J} {R : rk_R} {a1 : Int32} {v8 : Int32} (hd : 2 ≤ d) (hf : f_J1_charAt_3b067_1000004 a1 = some v8) :
    CW G l yJ1_charAt_3b067 cJ1_charAt_3b067 2 (some .char) d 0 0 [.ref 1000004, .int a1] n S I J R (rk_qi v8 n S I J R True) :=
  CW.of (by decide +kernel) (Nat.le_of_ble_eq_true rfl) (rk_sbs (rk_sbs rk_sb0)) (b_J1_charAt_3b067_1000004 hd hf (fun v9 h9 => by cases h9; exact ⟨rfl, rfl, rfl, rfl, rfl, rfl, trivial⟩))
noncomputable def f_J0_charAt_5068e_1000003 (a1 : Int32) : Option (Int32) :=
(f_J0_isLatin1_aae02_1000003 ).bind fun x1 =>
if x1 = 0 then (
none) else (
(f_J1_charAt_3b067_1000004 a1).bind fun x2 =>
(rk_ch x2).bind fun x3 =>
some x3)
theorem b_J0_charAt_5068e_1000003 {G : rk_G} {l : Launch} {d kc ks : Nat} {n : Nat} {S : rk_Sh} {I : rk_I} {J : rk_J} {R : rk_R} {Q : rk_Q} {a1 : Int32} {r : Int32} (hd : 3 ≤ d) (hf : f_J0_charAt_5068e_1000003 a1 = some r) (hq : ∀ (v9 : Int32), r = v9 → Q (some (.int v9)) n S I J R) :
    AW G l yJ0_charAt_5068e cJ0_charAt_5068e 2 (some .char) d kc ks 0 [some (.ref 1000003), some (.int a1)] [] n S I J R Q := by
  unfold f_J0_charAt_5068e_1000003 at hf
  refine AW_aload_n0 dJ0_charAt_5068e_0 ?_
  replace hf := rk_bd hf
  obtain ⟨x1, e1, hf⟩ := hf
  refine AW_iY0iz 1 (w_J0_isLatin1_aae02_1000003 (d := 0) e1) dJ0_charAt_5068e_1 kl_J0_492 (by decide) rfl (Nat.le_trans (by decide) hd) (by decide) (Nat.le_of_ble_eq_true rfl) (fun _ => ?_)
  refine AW_if_eq 16 dJ0_charAt_5068e_4 (by decide) (fun h1 => ?_) (fun h1 => ?_)
  · replace hf := rk_it hf h1
    refine AW_aload_n0 dJ0_charAt_5068e_16 ?_
    refine AW_svalue 1 (by decide) dJ0_charAt_5068e_17 ky_J0_9 ?_
    refine AW_iload_n1 dJ0_charAt_5068e_20 ?_
    cases hf
  · replace hf := rk_if hf h1
    refine AW_aload_n0 dJ0_charAt_5068e_7 ?_
    refine AW_svalue 1 (by decide) dJ0_charAt_5068e_8 ky_J0_9 ?_
    refine AW_iload_n1 dJ0_charAt_5068e_11 ?_
    replace hf := rk_bd hf
    obtain ⟨x2, e2, hf⟩ := hf
    refine AW_iS2iz (w_J1_charAt_3b067_1000004 (d := 2) (Nat.le_refl _) e2) dJ0_charAt_5068e_12 kl_J0_495 (Nat.le_trans (by decide) hd) (by decide) (Nat.le_of_ble_eq_true rfl) (fun _ => ?_)
    replace hf := rk_bd hf
    obtain ⟨x3, e3, hf⟩ := hf
    exact AW_cr dJ0_charAt_5068e_15 rfl e3 (hq _ (Option.some.inj hf).symm)
theorem w_J0_charAt_5068e_1000003 {G : rk_G} {l : Launch} {d : Nat} {n : Nat} {S : rk_Sh} {I : rk_I} {J : rk_J} {R : rk_R} {a1 : Int32} {v8 : Int32} (hd : 3 ≤ d) (hf : f_J0_charAt_5068e_1000003 a1 = some v8) :
    CW G l yJ0_charAt_5068e cJ0_charAt_5068e 2 (some .char) d 0 0 [.ref 1000003, .int a1] n S I J R (rk_qi v8 n S I J R True) :=
  CW.of (by decide +kernel) (Nat.le_of_ble_eq_true rfl) (rk_sbs (rk_sbs rk_sb0)) (b_J0_charAt_5068e_1000003 hd hf (fun v9 h9 => by cases h9; exact ⟨rfl, rfl, rfl, rfl, rfl, rfl, trivial⟩))
noncomputable def f_X2_stands_l3 (I : rk_I) (u1 : Int32) (u2 : Int32) (u3 : Int32) (s4 : Int32) : Option ((Int32) ⊕ ((Int32) ⊕ (Int32))) :=
if u3 ≤ s4 then (
some (.inr (.inl s4))) else (
(rk_rd I 5 160 s4).bind fun x1 =>
(f_J0_charAt_5068e_1000003 ((u1 + s4) - u2)).bind fun x2 =>
if x1 = x2 then (
some (.inl (s4 + 1))) else (
some (.inr (.inr 0))))
theorem b_X2_stands_l3 {G : rk_G} {l : Launch} {d kc ks : Nat} {n : Nat} {S : rk_Sh} {I : rk_I} {J : rk_J} {R : rk_R} {Q : rk_Q} {u1 : Int32} {u2 : Int32} {u3 : Int32} {s4 : Int32} {r : (Int32) ⊕ ((Int32) ⊕ (Int32))} (hd : 4 ≤ d) (hL : rk_LC S R) (hf : f_X2_stands_l3 I u1 u2 u3 s4 = some r) (hc : ∀ (w0 : Int32), r = .inl w0 → AW G l yX2_stands cX2_stands 5 (some .boolean) d kc ks 3 [some (.ref 4), some (.int u1), some (.int u2), some (.int u3), some (.int w0)] [] n S I J R Q) (he : ∀ (w0 : Int32), r = .inr (.inl w0) → AW G l yX2_stands cX2_stands 5 (some .boolean) d kc ks 38 [some (.ref 4), some (.int u1), some (.int u2), some (.int u3), some (.int w0)] [] n S I J R Q) (hq : ∀ (v9 : Int32), r = .inr (.inr v9) → Q (some (.int v9)) n S I J R) :
    AW G l yX2_stands cX2_stands 5 (some .boolean) d kc ks 3 [some (.ref 4), some (.int u1), some (.int u2), some (.int u3), some (.int s4)] [] n S I J R Q := by
  unfold f_X2_stands_l3 at hf
  refine AW_iload_4 dX2_stands_3 ?_
  refine AW_iload_n3 dX2_stands_5 ?_
  refine AW_icmp_ge 38 dX2_stands_6 (by decide) (fun h1 => ?_) (fun h1 => ?_)
  · replace hf := rk_it hf h1
    refine AW_sb (rk_sbs (rk_sbs (rk_sbs (rk_sbs (rk_sbs rk_sb0))))) ?_
    exact he _ (Option.some.inj hf).symm
  · replace hf := rk_if hf h1
    refine AW_aload_n0 dX2_stands_9 ?_
    refine AW_getR dX2_stands_10 kf_X2_11 rfl (hL.1 4 (by decide)) (by decide) (hL.2 4 0 5 rfl) ?_
    refine AW_iload_4 dX2_stands_13 ?_
    replace hf := rk_bd hf
    obtain ⟨x1, e1, hf⟩ := hf
    refine AW_rd dX2_stands_15 (hL.1 5 (by decide)) e1 ?_
    refine AW_ldcS1 rfl dX2_stands_16 ?_
    refine AW_iload_n1 dX2_stands_18 ?_
    refine AW_iload_4 dX2_stands_19 ?_
    refine AW_iadd dX2_stands_21 ?_
    refine AW_iload_n2 dX2_stands_22 ?_
    refine AW_isub dX2_stands_23 ?_
    replace hf := rk_bd hf
    obtain ⟨x2, e2, hf⟩ := hf
    refine AW_iY1iz 1 (w_J0_charAt_5068e_1000003 (d := 3) (Nat.le_refl _) e2) dX2_stands_24 kl_X2_110 (by decide) rfl (Nat.le_trans (by decide) hd) (by decide) (Nat.le_of_ble_eq_true rfl) (fun _ => ?_)
    refine AW_icmp_eq 32 dX2_stands_27 (by decide) (fun h2 => ?_) (fun h2 => ?_)
    · replace hf := rk_it hf h2
      refine AW_iinc_4 (v := 1) dX2_stands_32 (by decide) (by decide) rfl ?_
      refine AW_goto 3 dX2_stands_35 (by decide) ?_
      refine AW_sb (rk_sbs (rk_sbs (rk_sbs (rk_sbs (rk_sbs rk_sb0))))) ?_
      exact hc _ (Option.some.inj hf).symm
    · replace hf := rk_if hf h2
      refine AW_iconst (v := 0) dX2_stands_30 (by decide) ?_
      exact AW_zret dX2_stands_31 rfl rfl (hq _ (Option.some.inj hf).symm)
theorem L_X2_stands_w3 {G : rk_G} {l : Launch} {d kc ks : Nat} {n : Nat} {S : rk_Sh} {I : rk_I} {J : rk_J} {R : rk_R} {Q : rk_Q} {u1 : Int32} {u2 : Int32} {u3 : Int32} {r : (Int32) ⊕ (Int32)} (hd : 4 ≤ d) (hL : rk_LC S R) (he : ∀ (w0 : Int32), r = .inl w0 → AW G l yX2_stands cX2_stands 5 (some .boolean) d kc ks 38 [some (.ref 4), some (.int u1), some (.int u2), some (.int u3), some (.int w0)] [] n S I J R Q) (hq : ∀ (v9 : Int32), r = .inr v9 → Q (some (.int v9)) n S I J R) :
    ∀ (m9 : Nat) (s4 : Int32) , rk_loop (fun a9 => f_X2_stands_l3 I u1 u2 u3 a9) m9 s4 = some r → AW G l yX2_stands cX2_stands 5 (some .boolean) d kc ks 3 [some (.ref 4), some (.int u1), some (.int u2), some (.int u3), some (.int s4)] [] n S I J R Q := by
  intro m9
  induction m9 with
  | zero => intro s4 hf; cases hf
  | succ m9 ih =>
    intro s4 hf 
    obtain ⟨r9, hf, hr⟩ := rk_loop_s hf
    exact b_X2_stands_l3 hd hL hf (fun _ h9 => by subst h9; exact ih _ hr) (fun _ h9 => by subst h9; exact he _ hr.symm) (fun _ h9 => by subst h9; exact hq _ hr.symm)
noncomputable def f_X2_stands (I : rk_I) (a1 : Int32) (a2 : Int32) (a3 : Int32) : Option (Int32) :=
(rk_while (fun a9 => f_X2_stands_l3 I a1 a2 a3 a9) a2).bind fun q9 => rk_sc q9 (fun b9 => rk_p1 b9 (fun x1 => (
some 1))) (fun q8 => some q8)
theorem b_X2_stands {G : rk_G} {l : Launch} {d kc ks : Nat} {n : Nat} {S : rk_Sh} {I : rk_I} {J : rk_J} {R : rk_R} {Q : rk_Q} {a1 : Int32} {a2 : Int32} {a3 : Int32} {r : Int32} (hd : 4 ≤ d) (hL : rk_LC S R) (hf : f_X2_stands I a1 a2 a3 = some r) (hq : ∀ (v9 : Int32), r = v9 → Q (some (.int v9)) n S I J R) :
    AW G l yX2_stands cX2_stands 5 (some .boolean) d kc ks 0 [some (.ref 4), some (.int a1), some (.int a2), some (.int a3), none] [] n S I J R Q := by
  unfold f_X2_stands at hf
  refine AW_iload_n2 dX2_stands_0 ?_
  refine AW_istore_4 dX2_stands_1 (by decide) rfl ?_
  refine AW_sb (rk_sbs (rk_sbs (rk_sbs (rk_sbs (rk_sbs rk_sb0))))) ?_
  replace hf := rk_bd hf
  obtain ⟨q9, e1, hf⟩ := hf
  obtain ⟨m1, e1⟩ := rk_while_sp e1
  refine L_X2_stands_w3 (Nat.le_trans (by decide) hd) hL ?_ ?_ m1 _ e1
  · intro x1 h9
    subst h9
    replace hf := rk_scp1 hf
    refine AW_iconst (v := 1) dX2_stands_38 (by decide) ?_
    exact AW_zret dX2_stands_39 rfl rfl (hq _ (Option.some.inj hf).symm)
  · intro v7 h9
    subst h9
    replace hf := rk_sc_r hf
    exact hq _ (Option.some.inj hf).symm
theorem w_X2_stands {G : rk_G} {l : Launch} {d : Nat} {n : Nat} {S : rk_Sh} {I : rk_I} {J : rk_J} {R : rk_R} {a1 : Int32} {a2 : Int32} {a3 : Int32} {v8 : Int32} (hd : 4 ≤ d) (hL : rk_LC S R) (hf : f_X2_stands I a1 a2 a3 = some v8) :
    CW G l yX2_stands cX2_stands 5 (some .boolean) d 0 0 [.ref 4, .int a1, .int a2, .int a3] n S I J R (rk_qi v8 n S I J R True) :=
  CW.of (by decide +kernel) (Nat.le_of_ble_eq_true rfl) (rk_sbs (rk_sbs (rk_sbs (rk_sbs (rk_sbe rk_sb0))))) (b_X2_stands hd hL hf (fun v9 h9 => by cases h9; exact ⟨rfl, rfl, rfl, rfl, rfl, rfl, trivial⟩))
noncomputable def f_X2_wordOf_l8 (I : rk_I) (u1 : Int32) (u2 : Int32) (s3 : Int32) (s4 : Int32) (s5 : Int32) : Option ((Int32 × Int32 × Int32) ⊕ ((Int32 × Int32 × Int32) ⊕ (Int32))) :=
(f_J0_length_8abf5_1000003 ).bind fun x1 =>
if x1 ≤ s5 then (
some (.inr (.inl (s3, s4, s5)))) else (
(f_J0_charAt_5068e_1000003 s5).bind fun x2 =>
if x2 = 32 then (
if (s5 - s4) = (u2 - u1) then (
(f_X2_stands I s4 u1 u2).bind fun x3 =>
if x3 = 0 then (
some (.inl ((s3 + 1), (s5 + 1), (s5 + 1)))) else (
some (.inr (.inr s3)))) else (
some (.inl ((s3 + 1), (s5 + 1), (s5 + 1))))) else (
some (.inl (s3, s4, (s5 + 1)))))
theorem b_X2_wordOf_l8 {G : rk_G} {l : Launch} {d kc ks : Nat} {n : Nat} {S : rk_Sh} {I : rk_I} {J : rk_J} {R : rk_R} {Q : rk_Q} {u1 : Int32} {u2 : Int32} {s3 : Int32} {s4 : Int32} {s5 : Int32} {r : (Int32 × Int32 × Int32) ⊕ ((Int32 × Int32 × Int32) ⊕ (Int32))} (hd : 5 ≤ d) (hL : rk_LC S R) (hf : f_X2_wordOf_l8 I u1 u2 s3 s4 s5 = some r) (hc : ∀ (w0 : Int32) (w1 : Int32) (w2 : Int32), r = .inl (w0, w1, w2) → AW G l yX2_wordOf cX2_wordOf 6 (some .int) d kc ks 8 [some (.ref 4), some (.int u1), some (.int u2), some (.int w0), some (.int w1), some (.int w2)] [] n S I J R Q) (he : ∀ (w0 : Int32) (w1 : Int32) (w2 : Int32), r = .inr (.inl (w0, w1, w2)) → AW G l yX2_wordOf cX2_wordOf 6 (some .int) d kc ks 69 [some (.ref 4), some (.int u1), some (.int u2), some (.int w0), some (.int w1), some (.int w2)] [] n S I J R Q) (hq : ∀ (v9 : Int32), r = .inr (.inr v9) → Q (some (.int v9)) n S I J R) :
    AW G l yX2_wordOf cX2_wordOf 6 (some .int) d kc ks 8 [some (.ref 4), some (.int u1), some (.int u2), some (.int s3), some (.int s4), some (.int s5)] [] n S I J R Q := by
  unfold f_X2_wordOf_l8 at hf
  refine AW_iload_5 dX2_wordOf_8 ?_
  refine AW_ldcS1 rfl dX2_wordOf_10 ?_
  replace hf := rk_bd hf
  obtain ⟨x1, e1, hf⟩ := hf
  refine AW_iY0iz 1 (w_J0_length_8abf5_1000003 (d := 1) (Nat.le_refl _) e1) dX2_wordOf_12 kl_X2_107 (by decide) rfl (Nat.le_trans (by decide) hd) (by decide) (Nat.le_of_ble_eq_true rfl) (fun _ => ?_)
  refine AW_icmp_ge 69 dX2_wordOf_15 (by decide) (fun h1 => ?_) (fun h1 => ?_)
  · replace hf := rk_it hf h1
    refine AW_sb (rk_sbs (rk_sbs (rk_sbs (rk_sbs (rk_sbs (rk_sbs rk_sb0)))))) ?_
    exact he _ _ _ (Option.some.inj hf).symm
  · replace hf := rk_if hf h1
    refine AW_ldcS1 rfl dX2_wordOf_18 ?_
    refine AW_iload_5 dX2_wordOf_20 ?_
    replace hf := rk_bd hf
    obtain ⟨x2, e2, hf⟩ := hf
    refine AW_iY1iz 1 (w_J0_charAt_5068e_1000003 (d := 3) (Nat.le_refl _) e2) dX2_wordOf_22 kl_X2_110 (by decide) rfl (Nat.le_trans (by decide) hd) (by decide) (Nat.le_of_ble_eq_true rfl) (fun _ => ?_)
    refine AW_bipush (v := 32) dX2_wordOf_25 (by decide) ?_
    refine AW_icmp_ne 63 dX2_wordOf_27 (by decide) (fun h2 => ?_) (fun h2 => ?_)
    · replace hf := rk_if hf h2
      refine AW_iinc_5 (v := 1) dX2_wordOf_63 (by decide) (by decide) rfl ?_
      refine AW_goto 8 dX2_wordOf_66 (by decide) ?_
      refine AW_sb (rk_sbs (rk_sbs (rk_sbs (rk_sbs (rk_sbs (rk_sbs rk_sb0)))))) ?_
      exact hc _ _ _ (Option.some.inj hf).symm
    · replace hf := rk_it hf h2
      refine AW_iload_5 dX2_wordOf_30 ?_
      refine AW_iload_4 dX2_wordOf_32 ?_
      refine AW_isub dX2_wordOf_34 ?_
      refine AW_iload_n2 dX2_wordOf_35 ?_
      refine AW_iload_n1 dX2_wordOf_36 ?_
      refine AW_isub dX2_wordOf_37 ?_
      refine AW_icmp_ne 54 dX2_wordOf_38 (by decide) (fun h3 => ?_) (fun h3 => ?_)
      · replace hf := rk_if hf h3
        refine AW_iinc_3 (v := 1) dX2_wordOf_54 (by decide) (by decide) rfl ?_
        refine AW_iload_5 dX2_wordOf_57 ?_
        refine AW_iconst (v := 1) dX2_wordOf_59 (by decide) ?_
        refine AW_iadd dX2_wordOf_60 ?_
        refine AW_istore_4 dX2_wordOf_61 (by decide) rfl ?_
        refine AW_iinc_5 (v := 1) dX2_wordOf_63 (by decide) (by decide) rfl ?_
        refine AW_goto 8 dX2_wordOf_66 (by decide) ?_
        refine AW_sb (rk_sbs (rk_sbs (rk_sbs (rk_sbs (rk_sbs (rk_sbs rk_sb0)))))) ?_
        exact hc _ _ _ (Option.some.inj hf).symm
      · replace hf := rk_it hf h3
        refine AW_aload_n0 dX2_wordOf_41 ?_
        refine AW_iload_4 dX2_wordOf_42 ?_
        refine AW_iload_n1 dX2_wordOf_44 ?_
        refine AW_iload_n2 dX2_wordOf_45 ?_
        replace hf := rk_bd hf
        obtain ⟨x3, e3, hf⟩ := hf
        refine AW_iV3iz (w_X2_stands (d := 4) (Nat.le_refl _) hL e3) dX2_wordOf_46 kl_X2_114 (hL.1 4 (by decide)) rfl (Nat.le_trans (by decide) hd) (by decide) (Nat.le_of_ble_eq_true rfl) (fun _ => ?_)
        refine AW_if_eq 54 dX2_wordOf_49 (by decide) (fun h4 => ?_) (fun h4 => ?_)
        · replace hf := rk_it hf h4
          refine AW_iinc_3 (v := 1) dX2_wordOf_54 (by decide) (by decide) rfl ?_
          refine AW_iload_5 dX2_wordOf_57 ?_
          refine AW_iconst (v := 1) dX2_wordOf_59 (by decide) ?_
          refine AW_iadd dX2_wordOf_60 ?_
          refine AW_istore_4 dX2_wordOf_61 (by decide) rfl ?_
          refine AW_iinc_5 (v := 1) dX2_wordOf_63 (by decide) (by decide) rfl ?_
          refine AW_goto 8 dX2_wordOf_66 (by decide) ?_
          refine AW_sb (rk_sbs (rk_sbs (rk_sbs (rk_sbs (rk_sbs (rk_sbs rk_sb0)))))) ?_
          exact hc _ _ _ (Option.some.inj hf).symm
        · replace hf := rk_if hf h4
          refine AW_iload_n3 dX2_wordOf_52 ?_
          exact AW_iret dX2_wordOf_53 rfl (hq _ (Option.some.inj hf).symm)
theorem L_X2_wordOf_w8 {G : rk_G} {l : Launch} {d kc ks : Nat} {n : Nat} {S : rk_Sh} {I : rk_I} {J : rk_J} {R : rk_R} {Q : rk_Q} {u1 : Int32} {u2 : Int32} {r : (Int32 × Int32 × Int32) ⊕ (Int32)} (hd : 5 ≤ d) (hL : rk_LC S R) (he : ∀ (w0 : Int32) (w1 : Int32) (w2 : Int32), r = .inl (w0, w1, w2) → AW G l yX2_wordOf cX2_wordOf 6 (some .int) d kc ks 69 [some (.ref 4), some (.int u1), some (.int u2), some (.int w0), some (.int w1), some (.int w2)] [] n S I J R Q) (hq : ∀ (v9 : Int32), r = .inr v9 → Q (some (.int v9)) n S I J R) :
    ∀ (m9 : Nat) (s3 : Int32) (s4 : Int32) (s5 : Int32) , rk_loop (fun a9 => f_X2_wordOf_l8 I u1 u2 a9.1 a9.2.1 a9.2.2) m9 (s3, s4, s5) = some r → AW G l yX2_wordOf cX2_wordOf 6 (some .int) d kc ks 8 [some (.ref 4), some (.int u1), some (.int u2), some (.int s3), some (.int s4), some (.int s5)] [] n S I J R Q := by
  intro m9
  induction m9 with
  | zero => intro s3 s4 s5 hf; cases hf
  | succ m9 ih =>
    intro s3 s4 s5 hf 
    obtain ⟨r9, hf, hr⟩ := rk_loop_s hf
    exact b_X2_wordOf_l8 hd hL hf (fun _ _ _ h9 => by subst h9; exact ih _ _ _ hr) (fun _ _ _ h9 => by subst h9; exact he _ _ _ hr.symm) (fun _ h9 => by subst h9; exact hq _ hr.symm)
noncomputable def f_X2_wordOf (I : rk_I) (a1 : Int32) (a2 : Int32) : Option (Int32) :=
(rk_while (fun a9 => f_X2_wordOf_l8 I a1 a2 a9.1 a9.2.1 a9.2.2) (0, 0, 0)).bind fun q9 => rk_sc q9 (fun b9 => rk_p3 b9 (fun x1 x2 x3 => (
some 21))) (fun q8 => some q8)
theorem b_X2_wordOf {G : rk_G} {l : Launch} {d kc ks : Nat} {n : Nat} {S : rk_Sh} {I : rk_I} {J : rk_J} {R : rk_R} {Q : rk_Q} {a1 : Int32} {a2 : Int32} {r : Int32} (hd : 5 ≤ d) (hL : rk_LC S R) (hf : f_X2_wordOf I a1 a2 = some r) (hq : ∀ (v9 : Int32), r = v9 → Q (some (.int v9)) n S I J R) :
    AW G l yX2_wordOf cX2_wordOf 6 (some .int) d kc ks 0 [some (.ref 4), some (.int a1), some (.int a2), none, none, none] [] n S I J R Q := by
  unfold f_X2_wordOf at hf
  refine AW_iconst (v := 0) dX2_wordOf_0 (by decide) ?_
  refine AW_istore_n3 dX2_wordOf_1 (by decide) rfl ?_
  refine AW_iconst (v := 0) dX2_wordOf_2 (by decide) ?_
  refine AW_istore_4 dX2_wordOf_3 (by decide) rfl ?_
  refine AW_iconst (v := 0) dX2_wordOf_5 (by decide) ?_
  refine AW_istore_5 dX2_wordOf_6 (by decide) rfl ?_
  refine AW_sb (rk_sbs (rk_sbs (rk_sbs (rk_sbs (rk_sbs (rk_sbs rk_sb0)))))) ?_
  replace hf := rk_bd hf
  obtain ⟨q9, e1, hf⟩ := hf
  obtain ⟨m1, e1⟩ := rk_while_sp e1
  refine L_X2_wordOf_w8 (Nat.le_trans (by decide) hd) hL ?_ ?_ m1 _ _ _ e1
  · intro x1 x2 x3 h9
    subst h9
    replace hf := rk_scp3 hf
    refine AW_bipush (v := 21) dX2_wordOf_69 (by decide) ?_
    exact AW_iret dX2_wordOf_71 rfl (hq _ (Option.some.inj hf).symm)
  · intro v7 h9
    subst h9
    replace hf := rk_sc_r hf
    exact hq _ (Option.some.inj hf).symm
theorem w_X2_wordOf {G : rk_G} {l : Launch} {d : Nat} {n : Nat} {S : rk_Sh} {I : rk_I} {J : rk_J} {R : rk_R} {a1 : Int32} {a2 : Int32} {v8 : Int32} (hd : 5 ≤ d) (hL : rk_LC S R) (hf : f_X2_wordOf I a1 a2 = some v8) :
    CW G l yX2_wordOf cX2_wordOf 6 (some .int) d 0 0 [.ref 4, .int a1, .int a2] n S I J R (rk_qi v8 n S I J R True) :=
  CW.of (by decide +kernel) (Nat.le_of_ble_eq_true rfl) (rk_sbs (rk_sbs (rk_sbs (rk_sbe (rk_sbe (rk_sbe rk_sb0)))))) (b_X2_wordOf hd hL hf (fun v9 h9 => by cases h9; exact ⟨rfl, rfl, rfl, rfl, rfl, rfl, trivial⟩))
noncomputable def f_X2_tokenOf (I : rk_I) (a1 : Int32) (a2 : Int32) : Option (Int32) :=
(rk_rd I 5 160 a1).bind fun x1 =>
(f_X2_isLetter x1).bind fun x2 =>
if x2 = 0 then (
(f_X2_isDigit x1).bind fun x3 =>
if x3 = 0 then (
(f_J0_indexOf_0f7a4_1000005 (rk_ic x1)).bind fun x4 =>
if 0 ≤ x4 then (
some x1) else (
some 21)) else (
if (a2 - a1) ≤ 4 then (
(f_X2_numberOf I a1 a2).bind fun x5 =>
some (100 + x5)) else (
some 21))) else (
(f_X2_wordOf I a1 a2).bind fun x6 =>
some x6)
theorem b_X2_tokenOf {G : rk_G} {l : Launch} {d kc ks : Nat} {n : Nat} {S : rk_Sh} {I : rk_I} {J : rk_J} {R : rk_R} {Q : rk_Q} {a1 : Int32} {a2 : Int32} {r : Int32} (hd : 6 ≤ d) (hL : rk_LC S R) (hf : f_X2_tokenOf I a1 a2 = some r) (hq : ∀ (v9 : Int32), r = v9 → Q (some (.int v9)) n S I J R) :
    AW G l yX2_tokenOf cX2_tokenOf 4 (some .int) d kc ks 0 [some (.ref 4), some (.int a1), some (.int a2), none] [] n S I J R Q := by
  unfold f_X2_tokenOf at hf
  refine AW_aload_n0 dX2_tokenOf_0 ?_
  refine AW_getR dX2_tokenOf_1 kf_X2_11 rfl (hL.1 4 (by decide)) (by decide) (hL.2 4 0 5 rfl) ?_
  refine AW_iload_n1 dX2_tokenOf_4 ?_
  replace hf := rk_bd hf
  obtain ⟨x1, e1, hf⟩ := hf
  refine AW_rd dX2_tokenOf_5 (hL.1 5 (by decide)) e1 ?_
  refine AW_istore_n3 dX2_tokenOf_6 (by decide) rfl ?_
  refine AW_iload_n3 dX2_tokenOf_7 ?_
  replace hf := rk_bd hf
  obtain ⟨x2, e2, hf⟩ := hf
  refine AW_iS1iz (w_X2_isLetter (d := 0) e2) dX2_tokenOf_8 kl_X2_86 (Nat.le_trans (by decide) hd) (by decide) (Nat.le_of_ble_eq_true rfl) (fun _ => ?_)
  refine AW_if_eq 21 dX2_tokenOf_11 (by decide) (fun h1 => ?_) (fun h1 => ?_)
  · replace hf := rk_it hf h1
    refine AW_iload_n3 dX2_tokenOf_21 ?_
    replace hf := rk_bd hf
    obtain ⟨x3, e3, hf⟩ := hf
    refine AW_iS1iz (w_X2_isDigit (d := 0) e3) dX2_tokenOf_22 kl_X2_89 (Nat.le_trans (by decide) hd) (by decide) (Nat.le_of_ble_eq_true rfl) (fun _ => ?_)
    refine AW_if_eq 50 dX2_tokenOf_25 (by decide) (fun h2 => ?_) (fun h2 => ?_)
    · replace hf := rk_it hf h2
      refine AW_ldcS2 rfl dX2_tokenOf_50 ?_
      refine AW_iload_n3 dX2_tokenOf_52 ?_
      refine AW_ic dX2_tokenOf_53 ?_
      replace hf := rk_bd hf
      obtain ⟨x4, e4, hf⟩ := hf
      refine AW_iY1iz 2 (w_J0_indexOf_0f7a4_1000005 (d := 3) (Nat.le_refl _) e4) dX2_tokenOf_54 kl_X2_100 (by decide) rfl (Nat.le_trans (by decide) hd) (by decide) (Nat.le_of_ble_eq_true rfl) (fun _ => ?_)
      refine AW_if_ge 65 dX2_tokenOf_57 (by decide) (fun h3 => ?_) (fun h3 => ?_)
      · replace hf := rk_it hf h3
        refine AW_iload_n3 dX2_tokenOf_65 ?_
        exact AW_iret dX2_tokenOf_66 rfl (hq _ (Option.some.inj hf).symm)
      · replace hf := rk_if hf h3
        refine AW_bipush (v := 21) dX2_tokenOf_60 (by decide) ?_
        refine AW_goto 66 dX2_tokenOf_62 (by decide) ?_
        exact AW_iret dX2_tokenOf_66 rfl (hq _ (Option.some.inj hf).symm)
    · replace hf := rk_if hf h2
      refine AW_iload_n2 dX2_tokenOf_28 ?_
      refine AW_iload_n1 dX2_tokenOf_29 ?_
      refine AW_isub dX2_tokenOf_30 ?_
      refine AW_iconst (v := 4) dX2_tokenOf_31 (by decide) ?_
      refine AW_icmp_le 40 dX2_tokenOf_32 (by decide) (fun h4 => ?_) (fun h4 => ?_)
      · replace hf := rk_it hf h4
        refine AW_bipush (v := 100) dX2_tokenOf_40 (by decide) ?_
        refine AW_aload_n0 dX2_tokenOf_42 ?_
        refine AW_iload_n1 dX2_tokenOf_43 ?_
        refine AW_iload_n2 dX2_tokenOf_44 ?_
        replace hf := rk_bd hf
        obtain ⟨x5, e5, hf⟩ := hf
        refine AW_iV2iz (w_X2_numberOf (d := 0) hL e5) dX2_tokenOf_45 kl_X2_95 (hL.1 4 (by decide)) rfl (Nat.le_trans (by decide) hd) (by decide) (Nat.le_of_ble_eq_true rfl) (fun _ => ?_)
        refine AW_iadd dX2_tokenOf_48 ?_
        exact AW_iret dX2_tokenOf_49 rfl (hq _ (Option.some.inj hf).symm)
      · replace hf := rk_if hf h4
        refine AW_bipush (v := 21) dX2_tokenOf_35 (by decide) ?_
        refine AW_goto 49 dX2_tokenOf_37 (by decide) ?_
        exact AW_iret dX2_tokenOf_49 rfl (hq _ (Option.some.inj hf).symm)
  · replace hf := rk_if hf h1
    refine AW_aload_n0 dX2_tokenOf_14 ?_
    refine AW_iload_n1 dX2_tokenOf_15 ?_
    refine AW_iload_n2 dX2_tokenOf_16 ?_
    replace hf := rk_bd hf
    obtain ⟨x6, e6, hf⟩ := hf
    refine AW_iV2iz (w_X2_wordOf (d := 5) (Nat.le_refl _) hL e6) dX2_tokenOf_17 kl_X2_92 (hL.1 4 (by decide)) rfl (Nat.le_trans (by decide) hd) (by decide) (Nat.le_of_ble_eq_true rfl) (fun _ => ?_)
    exact AW_iret dX2_tokenOf_20 rfl (hq _ (Option.some.inj hf).symm)
theorem w_X2_tokenOf {G : rk_G} {l : Launch} {d : Nat} {n : Nat} {S : rk_Sh} {I : rk_I} {J : rk_J} {R : rk_R} {a1 : Int32} {a2 : Int32} {v8 : Int32} (hd : 6 ≤ d) (hL : rk_LC S R) (hf : f_X2_tokenOf I a1 a2 = some v8) :
    CW G l yX2_tokenOf cX2_tokenOf 4 (some .int) d 0 0 [.ref 4, .int a1, .int a2] n S I J R (rk_qi v8 n S I J R True) :=
  CW.of (by decide +kernel) (Nat.le_of_ble_eq_true rfl) (rk_sbs (rk_sbs (rk_sbs (rk_sbe rk_sb0)))) (b_X2_tokenOf hd hL hf (fun v9 h9 => by cases h9; exact ⟨rfl, rfl, rfl, rfl, rfl, rfl, trivial⟩))
noncomputable def f_X2_split_l9 (I : rk_I) (s1 : Int32) (s2 : Int32) : Option ((Int32 × Int32 × rk_I) ⊕ (Int32 × Int32 × rk_I)) :=
if 160 ≤ s2 then (
some (.inr (s1, s2, I))) else (
if (I 4 1) ≤ s1 then (
some (.inr (s1, s2, I))) else (
(f_X2_endOfToken I s1).bind fun x1 =>
(rk_rd I 5 160 s1).bind fun x2 =>
(f_X2_isBlank x2).bind fun x3 =>
if x3 = 0 then (
(f_X2_tokenOf I s1 x1).bind fun x4 =>
(rk_wr I 6 161 (I 4 4) x4).bind fun I1 =>
(rk_wr I1 7 161 (I1 4 4) s1).bind fun I2 =>
(some (rk_ui I2 4 4 ((I2 4 4) + 1))).bind fun I3 =>
some (.inl (x1, (s2 + 1), I3))) else (
some (.inl (x1, (s2 + 1), I)))))
theorem b_X2_split_l9 {G : rk_G} {l : Launch} {d kc ks : Nat} {n : Nat} {S : rk_Sh} {I : rk_I} {J : rk_J} {R : rk_R} {Q : rk_Q} {s1 : Int32} {s2 : Int32} {r : (Int32 × Int32 × rk_I) ⊕ (Int32 × Int32 × rk_I)} (hd : 7 ≤ d) (hL : rk_LC S R) (hf : f_X2_split_l9 I s1 s2 = some r) (hc : ∀ (w0 : Int32) (w1 : Int32) (I9 : rk_I), r = .inl (w0, w1, I9) → AW G l yX2_split cX2_split 4 none d kc ks 9 [some (.ref 4), some (.int w0), some (.int w1), none] [] n S I9 J R Q) (he : ∀ (w0 : Int32) (w1 : Int32) (I9 : rk_I), r = .inr (w0, w1, I9) → AW G l yX2_split cX2_split 4 none d kc ks 85 [some (.ref 4), some (.int w0), some (.int w1), none] [] n S I9 J R Q) :
    AW G l yX2_split cX2_split 4 none d kc ks 9 [some (.ref 4), some (.int s1), some (.int s2), none] [] n S I J R Q := by
  unfold f_X2_split_l9 at hf
  refine AW_iload_n2 dX2_split_9 ?_
  refine AW_sipush (v := 160) dX2_split_10 (by decide) ?_
  refine AW_icmp_ge 85 dX2_split_13 (by decide) (fun h1 => ?_) (fun h1 => ?_)
  · replace hf := rk_it hf h1
    refine AW_sb (rk_sbs (rk_sbs (rk_sbs (rk_sbn rk_sb0)))) ?_
    exact he _ _ _ (Option.some.inj hf).symm
  · replace hf := rk_if hf h1
    refine AW_iload_n1 dX2_split_16 ?_
    refine AW_aload_n0 dX2_split_17 ?_
    refine AW_getI dX2_split_18 kf_X2_27 rfl (hL.1 4 (by decide)) (by decide) ?_
    refine AW_icmp_ge 85 dX2_split_21 (by decide) (fun h2 => ?_) (fun h2 => ?_)
    · replace hf := rk_it hf h2
      refine AW_sb (rk_sbs (rk_sbs (rk_sbs (rk_sbn rk_sb0)))) ?_
      exact he _ _ _ (Option.some.inj hf).symm
    · replace hf := rk_if hf h2
      refine AW_aload_n0 dX2_split_24 ?_
      refine AW_iload_n1 dX2_split_25 ?_
      replace hf := rk_bd hf
      obtain ⟨x1, e1, hf⟩ := hf
      refine AW_iV1iz (w_X2_endOfToken (d := 1) (Nat.le_refl _) hL e1) dX2_split_26 kl_X2_74 (hL.1 4 (by decide)) rfl (Nat.le_trans (by decide) hd) (by decide) (Nat.le_of_ble_eq_true rfl) (fun _ => ?_)
      refine AW_istore_n3 dX2_split_29 (by decide) rfl ?_
      refine AW_aload_n0 dX2_split_30 ?_
      refine AW_getR dX2_split_31 kf_X2_11 rfl (hL.1 4 (by decide)) (by decide) (hL.2 4 0 5 rfl) ?_
      refine AW_iload_n1 dX2_split_34 ?_
      replace hf := rk_bd hf
      obtain ⟨x2, e2, hf⟩ := hf
      refine AW_rd dX2_split_35 (hL.1 5 (by decide)) e2 ?_
      replace hf := rk_bd hf
      obtain ⟨x3, e3, hf⟩ := hf
      refine AW_iS1iz (w_X2_isBlank (d := 0) e3) dX2_split_36 kl_X2_78 (Nat.le_trans (by decide) hd) (by decide) (Nat.le_of_ble_eq_true rfl) (fun _ => ?_)
      refine AW_if_ne 77 dX2_split_39 (by decide) (fun h3 => ?_) (fun h3 => ?_)
      · replace hf := rk_if hf h3
        refine AW_iload_n3 dX2_split_77 ?_
        refine AW_istore_n1 dX2_split_78 (by decide) rfl ?_
        refine AW_iinc_2 (v := 1) dX2_split_79 (by decide) (by decide) rfl ?_
        refine AW_goto 9 dX2_split_82 (by decide) ?_
        refine AW_sb (rk_sbs (rk_sbs (rk_sbs (rk_sbn rk_sb0)))) ?_
        exact hc _ _ _ (Option.some.inj hf).symm
      · replace hf := rk_it hf h3
        refine AW_aload_n0 dX2_split_42 ?_
        refine AW_getR dX2_split_43 kf_X2_15 rfl (hL.1 4 (by decide)) (by decide) (hL.2 4 2 6 rfl) ?_
        refine AW_aload_n0 dX2_split_46 ?_
        refine AW_getI dX2_split_47 kf_X2_71 rfl (hL.1 4 (by decide)) (by decide) ?_
        refine AW_aload_n0 dX2_split_50 ?_
        refine AW_iload_n1 dX2_split_51 ?_
        refine AW_iload_n3 dX2_split_52 ?_
        replace hf := rk_bd hf
        obtain ⟨x4, e4, hf⟩ := hf
        refine AW_iV2iz (w_X2_tokenOf (d := 6) (Nat.le_refl _) hL e4) dX2_split_53 kl_X2_82 (hL.1 4 (by decide)) rfl (Nat.le_trans (by decide) hd) (by decide) (Nat.le_of_ble_eq_true rfl) (fun _ => ?_)
        replace hf := rk_bd hf
        obtain ⟨I1, e5, hf⟩ := hf
        refine AW_wr dX2_split_56 (hL.1 6 (by decide)) e5 ?_
        refine AW_aload_n0 dX2_split_57 ?_
        refine AW_getR dX2_split_58 kf_X2_18 rfl (hL.1 4 (by decide)) (by decide) (hL.2 4 3 7 rfl) ?_
        refine AW_aload_n0 dX2_split_61 ?_
        refine AW_getI dX2_split_62 kf_X2_71 rfl (hL.1 4 (by decide)) (by decide) ?_
        refine AW_iload_n1 dX2_split_65 ?_
        replace hf := rk_bd hf
        obtain ⟨I2, e6, hf⟩ := hf
        refine AW_wr dX2_split_66 (hL.1 7 (by decide)) e6 ?_
        refine AW_aload_n0 dX2_split_67 ?_
        refine AW_dup dX2_split_68 rfl ?_
        refine AW_getI dX2_split_69 kf_X2_71 rfl (hL.1 4 (by decide)) (by decide) ?_
        refine AW_iconst (v := 1) dX2_split_72 (by decide) ?_
        refine AW_iadd dX2_split_73 ?_
        replace hf := rk_bd hf
        obtain ⟨I3, e7, hf⟩ := hf
        refine AW_puI dX2_split_74 kf_X2_71 rfl (hL.1 4 (by decide)) (by decide) e7 ?_
        refine AW_iload_n3 dX2_split_77 ?_
        refine AW_istore_n1 dX2_split_78 (by decide) rfl ?_
        refine AW_iinc_2 (v := 1) dX2_split_79 (by decide) (by decide) rfl ?_
        refine AW_goto 9 dX2_split_82 (by decide) ?_
        refine AW_sb (rk_sbs (rk_sbs (rk_sbs (rk_sbn rk_sb0)))) ?_
        exact hc _ _ _ (Option.some.inj hf).symm
theorem L_X2_split_w9 {G : rk_G} {l : Launch} {d kc ks : Nat} {n : Nat} {S : rk_Sh} {J : rk_J} {R : rk_R} {Q : rk_Q}  {r : Int32 × Int32 × rk_I} (hd : 7 ≤ d) (hL : rk_LC S R) (he : ∀ (w0 : Int32) (w1 : Int32) (I9 : rk_I), r = (w0, w1, I9) → AW G l yX2_split cX2_split 4 none d kc ks 85 [some (.ref 4), some (.int w0), some (.int w1), none] [] n S I9 J R Q) :
    ∀ (m9 : Nat) (s1 : Int32) (s2 : Int32) (I : rk_I), rk_loop (fun a9 => f_X2_split_l9 a9.2.2 a9.1 a9.2.1) m9 (s1, s2, I) = some r → AW G l yX2_split cX2_split 4 none d kc ks 9 [some (.ref 4), some (.int s1), some (.int s2), none] [] n S I J R Q := by
  intro m9
  induction m9 with
  | zero => intro s1 s2 I hf; cases hf
  | succ m9 ih =>
    intro s1 s2 I hf 
    obtain ⟨r9, hf, hr⟩ := rk_loop_s hf
    exact b_X2_split_l9 hd hL hf (fun _ _ _ h9 => by subst h9; exact ih _ _ _ hr) (fun _ _ _ h9 => by subst h9; exact he _ _ _ hr.symm)
noncomputable def f_X2_split_j85 (I : rk_I)  : Option (rk_I) :=
(rk_wr I 6 161 (I 4 4) 20).bind fun I1 =>
(rk_wr I1 7 161 (I1 4 4) (I1 4 1)).bind fun I2 =>
some I2
theorem b_X2_split_j85 {G : rk_G} {l : Launch} {d kc ks : Nat} {n : Nat} {S : rk_Sh} {I : rk_I} {J : rk_J} {R : rk_R} {Q : rk_Q}  {r : rk_I} (hd : 7 ≤ d) (hL : rk_LC S R) (hf : f_X2_split_j85 I = some r) (hq : ∀ (I9 : rk_I), r = I9 → Q (none) n S I9 J R) :
    AW G l yX2_split cX2_split 4 none d kc ks 85 [some (.ref 4), none, none, none] [] n S I J R Q := by
  unfold f_X2_split_j85 at hf
  refine AW_aload_n0 dX2_split_85 ?_
  refine AW_getR dX2_split_86 kf_X2_15 rfl (hL.1 4 (by decide)) (by decide) (hL.2 4 2 6 rfl) ?_
  refine AW_aload_n0 dX2_split_89 ?_
  refine AW_getI dX2_split_90 kf_X2_71 rfl (hL.1 4 (by decide)) (by decide) ?_
  refine AW_bipush (v := 20) dX2_split_93 (by decide) ?_
  replace hf := rk_bd hf
  obtain ⟨I1, e1, hf⟩ := hf
  refine AW_wr dX2_split_95 (hL.1 6 (by decide)) e1 ?_
  refine AW_aload_n0 dX2_split_96 ?_
  refine AW_getR dX2_split_97 kf_X2_18 rfl (hL.1 4 (by decide)) (by decide) (hL.2 4 3 7 rfl) ?_
  refine AW_aload_n0 dX2_split_100 ?_
  refine AW_getI dX2_split_101 kf_X2_71 rfl (hL.1 4 (by decide)) (by decide) ?_
  refine AW_aload_n0 dX2_split_104 ?_
  refine AW_getI dX2_split_105 kf_X2_27 rfl (hL.1 4 (by decide)) (by decide) ?_
  replace hf := rk_bd hf
  obtain ⟨I2, e2, hf⟩ := hf
  refine AW_wr dX2_split_108 (hL.1 7 (by decide)) e2 ?_
  exact AW_vret dX2_split_109 rfl (hq _ (Option.some.inj hf).symm)
noncomputable def f_X2_split (I : rk_I)  : Option (rk_I) :=
(some (rk_ui I 4 4 0)).bind fun I1 =>
rk_b3 (rk_while (fun a9 => f_X2_split_l9 a9.2.2 a9.1 a9.2.1) (0, 0, I1)) fun x1 x2 I2 =>
f_X2_split_j85 I2
theorem b_X2_split {G : rk_G} {l : Launch} {d kc ks : Nat} {n : Nat} {S : rk_Sh} {I : rk_I} {J : rk_J} {R : rk_R} {Q : rk_Q}  {r : rk_I} (hd : 7 ≤ d) (hL : rk_LC S R) (hf : f_X2_split I = some r) (hq : ∀ (I9 : rk_I), r = I9 → Q (none) n S I9 J R) :
    AW G l yX2_split cX2_split 4 none d kc ks 0 [some (.ref 4), none, none, none] [] n S I J R Q := by
  unfold f_X2_split at hf
  refine AW_aload_n0 dX2_split_0 ?_
  refine AW_iconst (v := 0) dX2_split_1 (by decide) ?_
  replace hf := rk_bd hf
  obtain ⟨I1, e1, hf⟩ := hf
  refine AW_puI dX2_split_2 kf_X2_71 rfl (hL.1 4 (by decide)) (by decide) e1 ?_
  refine AW_iconst (v := 0) dX2_split_5 (by decide) ?_
  refine AW_istore_n1 dX2_split_6 (by decide) rfl ?_
  refine AW_iconst (v := 0) dX2_split_7 (by decide) ?_
  refine AW_istore_n2 dX2_split_8 (by decide) rfl ?_
  refine AW_sb (rk_sbs (rk_sbs (rk_sbs (rk_sbn rk_sb0)))) ?_
  replace hf := rk_bd3 hf
  obtain ⟨x1, x2, I2, e2, hf⟩ := hf
  obtain ⟨m1, e2⟩ := rk_while_sp e2
  refine L_X2_split_w9 (Nat.le_trans (by decide) hd) hL ?_ m1 _ _ _ e2
  intro x1 x2 I2 h9
  cases h9
  refine AW_sb (rk_sbs (rk_sbn (rk_sbn (rk_sbn rk_sb0)))) ?_
  exact b_X2_split_j85 (Nat.le_trans (by decide) hd) hL hf hq
theorem w_X2_split {G : rk_G} {l : Launch} {d : Nat} {n : Nat} {S : rk_Sh} {I : rk_I} {J : rk_J} {R : rk_R}  {I8 : rk_I} (hd : 7 ≤ d) (hL : rk_LC S R) (hf : f_X2_split I = some I8) :
    CW G l yX2_split cX2_split 4 none d 0 0 [.ref 4] n S I J R (rk_qv n S I8 J R True) :=
  CW.of (by decide +kernel) (Nat.le_of_ble_eq_true rfl) (rk_sbs (rk_sbe (rk_sbe (rk_sbe rk_sb0)))) (b_X2_split hd hL hf (fun I9 h9 => by cases h9; exact ⟨rfl, rfl, rfl, rfl, rfl, rfl, trivial⟩))
noncomputable def f_X2_token (I : rk_I)  : Option (Int32) :=
if (I 4 6) = (-1) then (
(rk_rd I 6 161 (I 4 5)).bind fun x1 =>
some x1) else (
some 21)
theorem b_X2_token {G : rk_G} {l : Launch} {d kc ks : Nat} {n : Nat} {S : rk_Sh} {I : rk_I} {J : rk_J} {R : rk_R} {Q : rk_Q}  {r : Int32} (hL : rk_LC S R) (hf : f_X2_token I = some r) (hq : ∀ (v9 : Int32), r = v9 → Q (some (.int v9)) n S I J R) :
    AW G l yX2_token cX2_token 1 (some .int) d kc ks 0 [some (.ref 4)] [] n S I J R Q := by
  unfold f_X2_token at hf
  refine AW_aload_n0 dX2_token_0 ?_
  refine AW_getI dX2_token_1 kf_X2_37 rfl (hL.1 4 (by decide)) (by decide) ?_
  refine AW_iconst (v := (-1)) dX2_token_4 (by decide) ?_
  refine AW_icmp_ne 20 dX2_token_5 (by decide) (fun h1 => ?_) (fun h1 => ?_)
  · replace hf := rk_if hf h1
    refine AW_bipush (v := 21) dX2_token_20 (by decide) ?_
    exact AW_iret dX2_token_22 rfl (hq _ (Option.some.inj hf).symm)
  · replace hf := rk_it hf h1
    refine AW_aload_n0 dX2_token_8 ?_
    refine AW_getR dX2_token_9 kf_X2_15 rfl (hL.1 4 (by decide)) (by decide) (hL.2 4 2 6 rfl) ?_
    refine AW_aload_n0 dX2_token_12 ?_
    refine AW_getI dX2_token_13 kf_X2_34 rfl (hL.1 4 (by decide)) (by decide) ?_
    replace hf := rk_bd hf
    obtain ⟨x1, e1, hf⟩ := hf
    refine AW_rd dX2_token_16 (hL.1 6 (by decide)) e1 ?_
    refine AW_goto 22 dX2_token_17 (by decide) ?_
    exact AW_iret dX2_token_22 rfl (hq _ (Option.some.inj hf).symm)
theorem w_X2_token {G : rk_G} {l : Launch} {d : Nat} {n : Nat} {S : rk_Sh} {I : rk_I} {J : rk_J} {R : rk_R}  {v8 : Int32} (hL : rk_LC S R) (hf : f_X2_token I = some v8) :
    CW G l yX2_token cX2_token 1 (some .int) d 0 0 [.ref 4] n S I J R (rk_qi v8 n S I J R True) :=
  CW.of (by decide +kernel) (Nat.le_of_ble_eq_true rfl) (rk_sbs rk_sb0) (b_X2_token hL hf (fun v9 h9 => by cases h9; exact ⟨rfl, rfl, rfl, rfl, rfl, rfl, trivial⟩))
noncomputable def f_X2_fail (I : rk_I)  : Option (rk_I) :=
if (I 4 6) = (-1) then (
(rk_rd I 7 161 (I 4 5)).bind fun x1 =>
(some (rk_ui I 4 6 x1)).bind fun I1 =>
some I1) else (
some I)
theorem b_X2_fail {G : rk_G} {l : Launch} {d kc ks : Nat} {n : Nat} {S : rk_Sh} {I : rk_I} {J : rk_J} {R : rk_R} {Q : rk_Q}  {r : rk_I} (hL : rk_LC S R) (hf : f_X2_fail I = some r) (hq : ∀ (I9 : rk_I), r = I9 → Q (none) n S I9 J R) :
    AW G l yX2_fail cX2_fail 1 none d kc ks 0 [some (.ref 4)] [] n S I J R Q := by
  unfold f_X2_fail at hf
  refine AW_aload_n0 dX2_fail_0 ?_
  refine AW_getI dX2_fail_1 kf_X2_37 rfl (hL.1 4 (by decide)) (by decide) ?_
  refine AW_iconst (v := (-1)) dX2_fail_4 (by decide) ?_
  refine AW_icmp_ne 21 dX2_fail_5 (by decide) (fun h1 => ?_) (fun h1 => ?_)
  · replace hf := rk_if hf h1
    exact AW_vret dX2_fail_21 rfl (hq _ (Option.some.inj hf).symm)
  · replace hf := rk_it hf h1
    refine AW_aload_n0 dX2_fail_8 ?_
    refine AW_aload_n0 dX2_fail_9 ?_
    refine AW_getR dX2_fail_10 kf_X2_18 rfl (hL.1 4 (by decide)) (by decide) (hL.2 4 3 7 rfl) ?_
    refine AW_aload_n0 dX2_fail_13 ?_
    refine AW_getI dX2_fail_14 kf_X2_34 rfl (hL.1 4 (by decide)) (by decide) ?_
    replace hf := rk_bd hf
    obtain ⟨x1, e1, hf⟩ := hf
    refine AW_rd dX2_fail_17 (hL.1 7 (by decide)) e1 ?_
    replace hf := rk_bd hf
    obtain ⟨I1, e2, hf⟩ := hf
    refine AW_puI dX2_fail_18 kf_X2_37 rfl (hL.1 4 (by decide)) (by decide) e2 ?_
    exact AW_vret dX2_fail_21 rfl (hq _ (Option.some.inj hf).symm)
theorem w_X2_fail {G : rk_G} {l : Launch} {d : Nat} {n : Nat} {S : rk_Sh} {I : rk_I} {J : rk_J} {R : rk_R}  {I8 : rk_I} (hL : rk_LC S R) (hf : f_X2_fail I = some I8) :
    CW G l yX2_fail cX2_fail 1 none d 0 0 [.ref 4] n S I J R (rk_qv n S I8 J R True) :=
  CW.of (by decide +kernel) (Nat.le_of_ble_eq_true rfl) (rk_sbs rk_sb0) (b_X2_fail hL hf (fun I9 h9 => by cases h9; exact ⟨rfl, rfl, rfl, rfl, rfl, rfl, trivial⟩))
noncomputable def f_X2_next (I : rk_I)  : Option (rk_I) :=
if (I 4 4) ≤ (I 4 5) then (
some I) else (
(some (rk_ui I 4 5 ((I 4 5) + 1))).bind fun I1 =>
some I1)
theorem b_X2_next {G : rk_G} {l : Launch} {d kc ks : Nat} {n : Nat} {S : rk_Sh} {I : rk_I} {J : rk_J} {R : rk_R} {Q : rk_Q}  {r : rk_I} (hL : rk_LC S R) (hf : f_X2_next I = some r) (hq : ∀ (I9 : rk_I), r = I9 → Q (none) n S I9 J R) :
    AW G l yX2_next cX2_next 1 none d kc ks 0 [some (.ref 4)] [] n S I J R Q := by
  unfold f_X2_next at hf
  refine AW_aload_n0 dX2_next_0 ?_
  refine AW_getI dX2_next_1 kf_X2_34 rfl (hL.1 4 (by decide)) (by decide) ?_
  refine AW_aload_n0 dX2_next_4 ?_
  refine AW_getI dX2_next_5 kf_X2_71 rfl (hL.1 4 (by decide)) (by decide) ?_
  refine AW_icmp_ge 21 dX2_next_8 (by decide) (fun h1 => ?_) (fun h1 => ?_)
  · replace hf := rk_it hf h1
    exact AW_vret dX2_next_21 rfl (hq _ (Option.some.inj hf).symm)
  · replace hf := rk_if hf h1
    refine AW_aload_n0 dX2_next_11 ?_
    refine AW_dup dX2_next_12 rfl ?_
    refine AW_getI dX2_next_13 kf_X2_34 rfl (hL.1 4 (by decide)) (by decide) ?_
    refine AW_iconst (v := 1) dX2_next_16 (by decide) ?_
    refine AW_iadd dX2_next_17 ?_
    replace hf := rk_bd hf
    obtain ⟨I1, e1, hf⟩ := hf
    refine AW_puI dX2_next_18 kf_X2_34 rfl (hL.1 4 (by decide)) (by decide) e1 ?_
    exact AW_vret dX2_next_21 rfl (hq _ (Option.some.inj hf).symm)
theorem w_X2_next {G : rk_G} {l : Launch} {d : Nat} {n : Nat} {S : rk_Sh} {I : rk_I} {J : rk_J} {R : rk_R}  {I8 : rk_I} (hL : rk_LC S R) (hf : f_X2_next I = some I8) :
    CW G l yX2_next cX2_next 1 none d 0 0 [.ref 4] n S I J R (rk_qv n S I8 J R True) :=
  CW.of (by decide +kernel) (Nat.le_of_ble_eq_true rfl) (rk_sbs rk_sb0) (b_X2_next hL hf (fun I9 h9 => by cases h9; exact ⟨rfl, rfl, rfl, rfl, rfl, rfl, trivial⟩))
noncomputable def f_X2_take (I : rk_I) (a1 : Int32) : Option (rk_I) :=
(f_X2_token I).bind fun x1 =>
if x1 = a1 then (
(f_X2_next I).bind fun I2 =>
some I2) else (
(f_X2_fail I).bind fun I1 =>
some I1)
theorem b_X2_take {G : rk_G} {l : Launch} {d kc ks : Nat} {n : Nat} {S : rk_Sh} {I : rk_I} {J : rk_J} {R : rk_R} {Q : rk_Q} {a1 : Int32} {r : rk_I} (hd : 1 ≤ d) (hL : rk_LC S R) (hf : f_X2_take I a1 = some r) (hq : ∀ (I9 : rk_I), r = I9 → Q (none) n S I9 J R) :
    AW G l yX2_take cX2_take 2 none d kc ks 0 [some (.ref 4), some (.int a1)] [] n S I J R Q := by
  unfold f_X2_take at hf
  refine AW_aload_n0 dX2_take_0 ?_
  replace hf := rk_bd hf
  obtain ⟨x1, e1, hf⟩ := hf
  refine AW_iV0iz (w_X2_token (d := 0) hL e1) dX2_take_1 kl_X2_53 (hL.1 4 (by decide)) rfl (Nat.le_trans (by decide) hd) (by decide) (Nat.le_of_ble_eq_true rfl) (fun _ => ?_)
  refine AW_iload_n1 dX2_take_4 ?_
  refine AW_icmp_ne 15 dX2_take_5 (by decide) (fun h1 => ?_) (fun h1 => ?_)
  · replace hf := rk_if hf h1
    refine AW_aload_n0 dX2_take_15 ?_
    replace hf := rk_bd hf
    obtain ⟨I1, e2, hf⟩ := hf
    refine AW_iV0vz (w_X2_fail (d := 0) hL e2) dX2_take_16 kl_X2_57 (hL.1 4 (by decide)) rfl (Nat.le_trans (by decide) hd) (by decide) (Nat.le_of_ble_eq_true rfl) (fun _ => ?_)
    exact AW_vret dX2_take_19 rfl (hq _ (Option.some.inj hf).symm)
  · replace hf := rk_it hf h1
    refine AW_aload_n0 dX2_take_8 ?_
    replace hf := rk_bd hf
    obtain ⟨I2, e3, hf⟩ := hf
    refine AW_iV0vz (w_X2_next (d := 0) hL e3) dX2_take_9 kl_X2_118 (hL.1 4 (by decide)) rfl (Nat.le_trans (by decide) hd) (by decide) (Nat.le_of_ble_eq_true rfl) (fun _ => ?_)
    refine AW_goto 19 dX2_take_12 (by decide) ?_
    exact AW_vret dX2_take_19 rfl (hq _ (Option.some.inj hf).symm)
theorem w_X2_take {G : rk_G} {l : Launch} {d : Nat} {n : Nat} {S : rk_Sh} {I : rk_I} {J : rk_J} {R : rk_R} {a1 : Int32} {I8 : rk_I} (hd : 1 ≤ d) (hL : rk_LC S R) (hf : f_X2_take I a1 = some I8) :
    CW G l yX2_take cX2_take 2 none d 0 0 [.ref 4, .int a1] n S I J R (rk_qv n S I8 J R True) :=
  CW.of (by decide +kernel) (Nat.le_of_ble_eq_true rfl) (rk_sbs (rk_sbs rk_sb0)) (b_X2_take hd hL hf (fun I9 h9 => by cases h9; exact ⟨rfl, rfl, rfl, rfl, rfl, rfl, trivial⟩))
noncomputable def f_X2_joins (a0 : Int32) (a1 : Int32) : Option (Int32) :=
if a1 = 0 then (
if a0 = 6 then (
some 1) else (
some 0)) else
if a1 = 1 then (
if a0 = 7 then (
some 1) else (
some 0)) else
if a1 = 2 then (
some 0) else
if a1 = 3 then (
if a0 = 43 then (
some 1) else (
if a0 = 45 then (
some 1) else (
some 0))) else
if a1 = 4 then (
if a0 = 42 then (
some 1) else (
some 0)) else
some 0
theorem b_X2_joins {G : rk_G} {l : Launch} {d kc ks : Nat} {n : Nat} {S : rk_Sh} {I : rk_I} {J : rk_J} {R : rk_R} {Q : rk_Q} {a0 : Int32} {a1 : Int32} {r : Int32} (hf : f_X2_joins a0 a1 = some r) (hq : ∀ (v9 : Int32), r = v9 → Q (some (.int v9)) n S I J R) :
    AW G l yX2_joins cX2_joins 2 (some .boolean) d kc ks 0 [some (.int a0), some (.int a1)] [] n S I J R Q := by
  unfold f_X2_joins at hf
  refine AW_iload_n1 dX2_joins_0 ?_
  by_cases h1 : a1 = 0
  · replace hf := rk_it hf h1
    refine AW_tableIn 36 dX2_joins_1 (by rw [h1]; decide) (by rw [h1]; decide) (by rw [h1]; rfl) (by decide) ?_
    refine AW_iload_n0 dX2_joins_36 ?_
    refine AW_bipush (v := 6) dX2_joins_37 (by decide) ?_
    refine AW_icmp_ne 46 dX2_joins_39 (by decide) (fun h2 => ?_) (fun h2 => ?_)
    · replace hf := rk_if hf h2
      refine AW_iconst (v := 0) dX2_joins_46 (by decide) ?_
      exact AW_zret dX2_joins_47 rfl rfl (hq _ (Option.some.inj hf).symm)
    · replace hf := rk_it hf h2
      refine AW_iconst (v := 1) dX2_joins_42 (by decide) ?_
      refine AW_goto 47 dX2_joins_43 (by decide) ?_
      exact AW_zret dX2_joins_47 rfl rfl (hq _ (Option.some.inj hf).symm)
  replace hf := rk_if hf h1
  by_cases h3 : a1 = 1
  · replace hf := rk_it hf h3
    refine AW_tableIn 48 dX2_joins_1 (by rw [h3]; decide) (by rw [h3]; decide) (by rw [h3]; rfl) (by decide) ?_
    refine AW_iload_n0 dX2_joins_48 ?_
    refine AW_bipush (v := 7) dX2_joins_49 (by decide) ?_
    refine AW_icmp_ne 58 dX2_joins_51 (by decide) (fun h4 => ?_) (fun h4 => ?_)
    · replace hf := rk_if hf h4
      refine AW_iconst (v := 0) dX2_joins_58 (by decide) ?_
      exact AW_zret dX2_joins_59 rfl rfl (hq _ (Option.some.inj hf).symm)
    · replace hf := rk_it hf h4
      refine AW_iconst (v := 1) dX2_joins_54 (by decide) ?_
      refine AW_goto 59 dX2_joins_55 (by decide) ?_
      exact AW_zret dX2_joins_59 rfl rfl (hq _ (Option.some.inj hf).symm)
  replace hf := rk_if hf h3
  by_cases h5 : a1 = 2
  · replace hf := rk_it hf h5
    refine AW_tableIn 90 dX2_joins_1 (by rw [h5]; decide) (by rw [h5]; decide) (by rw [h5]; rfl) (by decide) ?_
    refine AW_iconst (v := 0) dX2_joins_90 (by decide) ?_
    exact AW_zret dX2_joins_91 rfl rfl (hq _ (Option.some.inj hf).symm)
  replace hf := rk_if hf h5
  by_cases h6 : a1 = 3
  · replace hf := rk_it hf h6
    refine AW_tableIn 60 dX2_joins_1 (by rw [h6]; decide) (by rw [h6]; decide) (by rw [h6]; rfl) (by decide) ?_
    refine AW_iload_n0 dX2_joins_60 ?_
    refine AW_bipush (v := 43) dX2_joins_61 (by decide) ?_
    refine AW_icmp_eq 72 dX2_joins_63 (by decide) (fun h7 => ?_) (fun h7 => ?_)
    · replace hf := rk_it hf h7
      refine AW_iconst (v := 1) dX2_joins_72 (by decide) ?_
      refine AW_goto 77 dX2_joins_73 (by decide) ?_
      exact AW_zret dX2_joins_77 rfl rfl (hq _ (Option.some.inj hf).symm)
    · replace hf := rk_if hf h7
      refine AW_iload_n0 dX2_joins_66 ?_
      refine AW_bipush (v := 45) dX2_joins_67 (by decide) ?_
      refine AW_icmp_ne 76 dX2_joins_69 (by decide) (fun h8 => ?_) (fun h8 => ?_)
      · replace hf := rk_if hf h8
        refine AW_iconst (v := 0) dX2_joins_76 (by decide) ?_
        exact AW_zret dX2_joins_77 rfl rfl (hq _ (Option.some.inj hf).symm)
      · replace hf := rk_it hf h8
        refine AW_iconst (v := 1) dX2_joins_72 (by decide) ?_
        refine AW_goto 77 dX2_joins_73 (by decide) ?_
        exact AW_zret dX2_joins_77 rfl rfl (hq _ (Option.some.inj hf).symm)
  replace hf := rk_if hf h6
  by_cases h9 : a1 = 4
  · replace hf := rk_it hf h9
    refine AW_tableIn 78 dX2_joins_1 (by rw [h9]; decide) (by rw [h9]; decide) (by rw [h9]; rfl) (by decide) ?_
    refine AW_iload_n0 dX2_joins_78 ?_
    refine AW_bipush (v := 42) dX2_joins_79 (by decide) ?_
    refine AW_icmp_ne 88 dX2_joins_81 (by decide) (fun h10 => ?_) (fun h10 => ?_)
    · replace hf := rk_if hf h10
      refine AW_iconst (v := 0) dX2_joins_88 (by decide) ?_
      exact AW_zret dX2_joins_89 rfl rfl (hq _ (Option.some.inj hf).symm)
    · replace hf := rk_it hf h10
      refine AW_iconst (v := 1) dX2_joins_84 (by decide) ?_
      refine AW_goto 89 dX2_joins_85 (by decide) ?_
      exact AW_zret dX2_joins_89 rfl rfl (hq _ (Option.some.inj hf).symm)
  replace hf := rk_if hf h9
  refine AW_tableOut 90 dX2_joins_1 (by
    have g_h1 : ¬ (a1).toInt = 0 := fun z => h1 (Int32.toInt_inj.mp z)
    have g_h3 : ¬ (a1).toInt = 1 := fun z => h3 (Int32.toInt_inj.mp z)
    have g_h5 : ¬ (a1).toInt = 2 := fun z => h5 (Int32.toInt_inj.mp z)
    have g_h6 : ¬ (a1).toInt = 3 := fun z => h6 (Int32.toInt_inj.mp z)
    have g_h9 : ¬ (a1).toInt = 4 := fun z => h9 (Int32.toInt_inj.mp z)
    omega) (by decide) ?_
  refine AW_iconst (v := 0) dX2_joins_90 (by decide) ?_
  exact AW_zret dX2_joins_91 rfl rfl (hq _ (Option.some.inj hf).symm)
theorem w_X2_joins {G : rk_G} {l : Launch} {d : Nat} {n : Nat} {S : rk_Sh} {I : rk_I} {J : rk_J} {R : rk_R} {a0 : Int32} {a1 : Int32} {v8 : Int32} (hf : f_X2_joins a0 a1 = some v8) :
    CW G l yX2_joins cX2_joins 2 (some .boolean) d 0 0 [.int a0, .int a1] n S I J R (rk_qi v8 n S I J R True) :=
  CW.of (by decide +kernel) (Nat.le_of_ble_eq_true rfl) (rk_sbs (rk_sbs rk_sb0)) (b_X2_joins hf (fun v9 h9 => by cases h9; exact ⟨rfl, rfl, rfl, rfl, rfl, rfl, trivial⟩))
noncomputable def f_X2_emit (I : rk_I) (a1 : Int32) : Option (rk_I) :=
if 160 ≤ (I 4 8) then (
some I) else (
(rk_wr I 8 160 (I 4 8) a1).bind fun I1 =>
(some (rk_ui I1 4 8 ((I1 4 8) + 1))).bind fun I2 =>
some I2)
theorem b_X2_emit {G : rk_G} {l : Launch} {d kc ks : Nat} {n : Nat} {S : rk_Sh} {I : rk_I} {J : rk_J} {R : rk_R} {Q : rk_Q} {a1 : Int32} {r : rk_I} (hL : rk_LC S R) (hf : f_X2_emit I a1 = some r) (hq : ∀ (I9 : rk_I), r = I9 → Q (none) n S I9 J R) :
    AW G l yX2_emit cX2_emit 2 none d kc ks 0 [some (.ref 4), some (.int a1)] [] n S I J R Q := by
  unfold f_X2_emit at hf
  refine AW_aload_n0 dX2_emit_0 ?_
  refine AW_getI dX2_emit_1 kf_X2_40 rfl (hL.1 4 (by decide)) (by decide) ?_
  refine AW_aload_n0 dX2_emit_4 ?_
  refine AW_getR dX2_emit_5 kf_X2_21 rfl (hL.1 4 (by decide)) (by decide) (hL.2 4 7 8 rfl) ?_
  refine AW_alen (v := 160) dX2_emit_8 (hL.1 8 (by decide)) rfl (by decide) ?_
  refine AW_icmp_ge 32 dX2_emit_9 (by decide) (fun h1 => ?_) (fun h1 => ?_)
  · replace hf := rk_it hf h1
    exact AW_vret dX2_emit_32 rfl (hq _ (Option.some.inj hf).symm)
  · replace hf := rk_if hf h1
    refine AW_aload_n0 dX2_emit_12 ?_
    refine AW_getR dX2_emit_13 kf_X2_21 rfl (hL.1 4 (by decide)) (by decide) (hL.2 4 7 8 rfl) ?_
    refine AW_aload_n0 dX2_emit_16 ?_
    refine AW_getI dX2_emit_17 kf_X2_40 rfl (hL.1 4 (by decide)) (by decide) ?_
    refine AW_iload_n1 dX2_emit_20 ?_
    replace hf := rk_bd hf
    obtain ⟨I1, e1, hf⟩ := hf
    refine AW_wr dX2_emit_21 (hL.1 8 (by decide)) e1 ?_
    refine AW_aload_n0 dX2_emit_22 ?_
    refine AW_dup dX2_emit_23 rfl ?_
    refine AW_getI dX2_emit_24 kf_X2_40 rfl (hL.1 4 (by decide)) (by decide) ?_
    refine AW_iconst (v := 1) dX2_emit_27 (by decide) ?_
    refine AW_iadd dX2_emit_28 ?_
    replace hf := rk_bd hf
    obtain ⟨I2, e2, hf⟩ := hf
    refine AW_puI dX2_emit_29 kf_X2_40 rfl (hL.1 4 (by decide)) (by decide) e2 ?_
    exact AW_vret dX2_emit_32 rfl (hq _ (Option.some.inj hf).symm)
theorem w_X2_emit {G : rk_G} {l : Launch} {d : Nat} {n : Nat} {S : rk_Sh} {I : rk_I} {J : rk_J} {R : rk_R} {a1 : Int32} {I8 : rk_I} (hL : rk_LC S R) (hf : f_X2_emit I a1 = some I8) :
    CW G l yX2_emit cX2_emit 2 none d 0 0 [.ref 4, .int a1] n S I J R (rk_qv n S I8 J R True) :=
  CW.of (by decide +kernel) (Nat.le_of_ble_eq_true rfl) (rk_sbs (rk_sbs rk_sb0)) (b_X2_emit hL hf (fun I9 h9 => by cases h9; exact ⟨rfl, rfl, rfl, rfl, rfl, rfl, trivial⟩))
noncomputable def f_X2_opens (I : rk_I) (a1 : Int32) : Option (Int32 × rk_I) :=
if a1 < 5 then (
(f_X2_next I).bind fun I1 =>
some (1, I1)) else (
(f_X2_fail I).bind fun I2 =>
some (0, I2))
theorem b_X2_opens {G : rk_G} {l : Launch} {d kc ks : Nat} {n : Nat} {S : rk_Sh} {I : rk_I} {J : rk_J} {R : rk_R} {Q : rk_Q} {a1 : Int32} {r : Int32 × rk_I} (hd : 1 ≤ d) (hL : rk_LC S R) (hf : f_X2_opens I a1 = some r) (hq : ∀ (v9 : Int32) (I9 : rk_I), r = (v9, I9) → Q (some (.int v9)) n S I9 J R) :
    AW G l yX2_opens cX2_opens 2 (some .boolean) d kc ks 0 [some (.ref 4), some (.int a1)] [] n S I J R Q := by
  unfold f_X2_opens at hf
  refine AW_iload_n1 dX2_opens_0 ?_
  refine AW_iconst (v := 5) dX2_opens_1 (by decide) ?_
  refine AW_icmp_lt 11 dX2_opens_2 (by decide) (fun h1 => ?_) (fun h1 => ?_)
  · replace hf := rk_it hf h1
    refine AW_aload_n0 dX2_opens_11 ?_
    replace hf := rk_bd hf
    obtain ⟨I1, e1, hf⟩ := hf
    refine AW_iV0vz (w_X2_next (d := 0) hL e1) dX2_opens_12 kl_X2_118 (hL.1 4 (by decide)) rfl (Nat.le_trans (by decide) hd) (by decide) (Nat.le_of_ble_eq_true rfl) (fun _ => ?_)
    refine AW_iconst (v := 1) dX2_opens_15 (by decide) ?_
    exact AW_zret dX2_opens_16 rfl rfl (hq _ _ (Option.some.inj hf).symm)
  · replace hf := rk_if hf h1
    refine AW_aload_n0 dX2_opens_5 ?_
    replace hf := rk_bd hf
    obtain ⟨I2, e2, hf⟩ := hf
    refine AW_iV0vz (w_X2_fail (d := 0) hL e2) dX2_opens_6 kl_X2_57 (hL.1 4 (by decide)) rfl (Nat.le_trans (by decide) hd) (by decide) (Nat.le_of_ble_eq_true rfl) (fun _ => ?_)
    refine AW_iconst (v := 0) dX2_opens_9 (by decide) ?_
    exact AW_zret dX2_opens_10 rfl rfl (hq _ _ (Option.some.inj hf).symm)
theorem w_X2_opens {G : rk_G} {l : Launch} {d : Nat} {n : Nat} {S : rk_Sh} {I : rk_I} {J : rk_J} {R : rk_R} {a1 : Int32} {v8 : Int32} {I8 : rk_I} (hd : 1 ≤ d) (hL : rk_LC S R) (hf : f_X2_opens I a1 = some (v8, I8)) :
    CW G l yX2_opens cX2_opens 2 (some .boolean) d 0 0 [.ref 4, .int a1] n S I J R (rk_qi v8 n S I8 J R True) :=
  CW.of (by decide +kernel) (Nat.le_of_ble_eq_true rfl) (rk_sbs (rk_sbs rk_sb0)) (b_X2_opens hd hL hf (fun v9 I9 h9 => by cases h9; exact ⟨rfl, rfl, rfl, rfl, rfl, rfl, trivial⟩))
noncomputable def f_X2_phrase_l32 (rec : Nat → Int32 → Int32 → rk_I → Option (rk_I)) (I : rk_I) (u1 : Int32) (u2 : Int32) (s3 : Int32) : Option ((Int32 × rk_I) ⊕ (Int32 × rk_I)) :=
if 160 ≤ s3 then (
some (.inr (s3, I))) else (
(f_X2_token I).bind fun x1 =>
(f_X2_joins x1 u1).bind fun x2 =>
if x2 = 0 then (
some (.inr (s3, I))) else (
(f_X2_token I).bind fun x3 =>
(f_X2_next I).bind fun I1 =>
(rec 0 (u1 + 1) u2 I1).bind fun I2 =>
(f_X2_emit I2 x3).bind fun I3 =>
some (.inl ((s3 + 1), I3))))
theorem b_X2_phrase_l32 {G : rk_G} {l : Launch} {d kc ks : Nat} {n : Nat} {S : rk_Sh} {I : rk_I} {J : rk_J} {R : rk_R} {Q : rk_Q} {u1 : Int32} {u2 : Int32} {s3 : Int32} {r : (Int32 × rk_I) ⊕ (Int32 × rk_I)} {d0 : Nat} {rec : Nat → Int32 → Int32 → rk_I → Option (rk_I)} (hd0 : d0 + 1 ≤ d) (hr0 : ∀ (n : Nat) (S : rk_Sh) (I : rk_I) (J : rk_J) (R : rk_R) (x0 : Int32) (x1 : Int32) (I9 : rk_I), rk_LC S R → rec 0 x0 x1 I = some I9 → CW G l yX2_phrase cX2_phrase 5 none d0 0 0 [.ref 4, .int x0, .int x1] n S I J R (rk_qv n S I9 J R True)) (hr1 : ∀ (n : Nat) (S : rk_Sh) (I : rk_I) (J : rk_J) (R : rk_R) (x0 : Int32) (I9 : rk_I), rk_LC S R → rec 1 x0 0 I = some I9 → CW G l yX2_denial cX2_denial 3 none d0 0 0 [.ref 4, .int x0] n S I J R (rk_qv n S I9 J R True)) (hr2 : ∀ (n : Nat) (S : rk_Sh) (I : rk_I) (J : rk_J) (R : rk_R) (x0 : Int32) (I9 : rk_I), rk_LC S R → rec 2 x0 0 I = some I9 → CW G l yX2_one cX2_one 3 none d0 0 0 [.ref 4, .int x0] n S I J R (rk_qv n S I9 J R True)) (hd : 1 ≤ d) (hL : rk_LC S R) (hf : f_X2_phrase_l32 rec I u1 u2 s3 = some r) (hc : ∀ (w0 : Int32) (I9 : rk_I), r = .inl (w0, I9) → AW G l yX2_phrase cX2_phrase 5 none d kc ks 32 [some (.ref 4), some (.int u1), some (.int u2), some (.int w0), none] [] n S I9 J R Q) (he : ∀ (w0 : Int32) (I9 : rk_I), r = .inr (w0, I9) → AW G l yX2_phrase cX2_phrase 5 none d kc ks 80 [some (.ref 4), some (.int u1), some (.int u2), some (.int w0), none] [] n S I9 J R Q) :
    AW G l yX2_phrase cX2_phrase 5 none d kc ks 32 [some (.ref 4), some (.int u1), some (.int u2), some (.int s3), none] [] n S I J R Q := by
  unfold f_X2_phrase_l32 at hf
  refine AW_iload_n3 dX2_phrase_32 ?_
  refine AW_sipush (v := 160) dX2_phrase_33 (by decide) ?_
  refine AW_icmp_ge 80 dX2_phrase_36 (by decide) (fun h1 => ?_) (fun h1 => ?_)
  · replace hf := rk_it hf h1
    refine AW_sb (rk_sbs (rk_sbs (rk_sbs (rk_sbs (rk_sbn rk_sb0))))) ?_
    exact he _ _ (Option.some.inj hf).symm
  · replace hf := rk_if hf h1
    refine AW_aload_n0 dX2_phrase_39 ?_
    replace hf := rk_bd hf
    obtain ⟨x1, e1, hf⟩ := hf
    refine AW_iV0iz (w_X2_token (d := 0) hL e1) dX2_phrase_40 kl_X2_53 (hL.1 4 (by decide)) rfl (Nat.le_trans (by decide) hd) (by decide) (Nat.le_of_ble_eq_true rfl) (fun _ => ?_)
    refine AW_iload_n1 dX2_phrase_43 ?_
    replace hf := rk_bd hf
    obtain ⟨x2, e2, hf⟩ := hf
    refine AW_iS2iz (w_X2_joins (d := 0) e2) dX2_phrase_44 kl_X2_127 (Nat.le_trans (by decide) hd) (by decide) (Nat.le_of_ble_eq_true rfl) (fun _ => ?_)
    refine AW_if_eq 80 dX2_phrase_47 (by decide) (fun h2 => ?_) (fun h2 => ?_)
    · replace hf := rk_it hf h2
      refine AW_sb (rk_sbs (rk_sbs (rk_sbs (rk_sbs (rk_sbn rk_sb0))))) ?_
      exact he _ _ (Option.some.inj hf).symm
    · replace hf := rk_if hf h2
      refine AW_aload_n0 dX2_phrase_50 ?_
      replace hf := rk_bd hf
      obtain ⟨x3, e3, hf⟩ := hf
      refine AW_iV0iz (w_X2_token (d := 0) hL e3) dX2_phrase_51 kl_X2_53 (hL.1 4 (by decide)) rfl (Nat.le_trans (by decide) hd) (by decide) (Nat.le_of_ble_eq_true rfl) (fun _ => ?_)
      refine AW_istore_4 dX2_phrase_54 (by decide) rfl ?_
      refine AW_aload_n0 dX2_phrase_56 ?_
      replace hf := rk_bd hf
      obtain ⟨I1, e4, hf⟩ := hf
      refine AW_iV0vz (w_X2_next (d := 0) hL e4) dX2_phrase_57 kl_X2_118 (hL.1 4 (by decide)) rfl (Nat.le_trans (by decide) hd) (by decide) (Nat.le_of_ble_eq_true rfl) (fun _ => ?_)
      refine AW_aload_n0 dX2_phrase_60 ?_
      refine AW_iload_n1 dX2_phrase_61 ?_
      refine AW_iconst (v := 1) dX2_phrase_62 (by decide) ?_
      refine AW_iadd dX2_phrase_63 ?_
      refine AW_iload_n2 dX2_phrase_64 ?_
      replace hf := rk_bd hf
      obtain ⟨I2, e5, hf⟩ := hf
      refine AW_iV2vz (hr0 _ _ _ _ _ _ _ _ hL e5) dX2_phrase_65 kl_X2_49 (hL.1 4 (by decide)) rfl hd0 (by decide) (Nat.le_of_ble_eq_true rfl) (fun _ => ?_)
      refine AW_aload_n0 dX2_phrase_68 ?_
      refine AW_iload_4 dX2_phrase_69 ?_
      replace hf := rk_bd hf
      obtain ⟨I3, e6, hf⟩ := hf
      refine AW_iV1vz (w_X2_emit (d := 0) hL e6) dX2_phrase_71 kl_X2_131 (hL.1 4 (by decide)) rfl (Nat.le_trans (by decide) hd) (by decide) (Nat.le_of_ble_eq_true rfl) (fun _ => ?_)
      refine AW_iinc_3 (v := 1) dX2_phrase_74 (by decide) (by decide) rfl ?_
      refine AW_goto 32 dX2_phrase_77 (by decide) ?_
      refine AW_sb (rk_sbs (rk_sbs (rk_sbs (rk_sbs (rk_sbn rk_sb0))))) ?_
      exact hc _ _ (Option.some.inj hf).symm
theorem L_X2_phrase_w32 {G : rk_G} {l : Launch} {d kc ks : Nat} {n : Nat} {S : rk_Sh} {J : rk_J} {R : rk_R} {Q : rk_Q} {u1 : Int32} {u2 : Int32} {r : Int32 × rk_I} {d0 : Nat} {rec : Nat → Int32 → Int32 → rk_I → Option (rk_I)} (hd0 : d0 + 1 ≤ d) (hr0 : ∀ (n : Nat) (S : rk_Sh) (I : rk_I) (J : rk_J) (R : rk_R) (x0 : Int32) (x1 : Int32) (I9 : rk_I), rk_LC S R → rec 0 x0 x1 I = some I9 → CW G l yX2_phrase cX2_phrase 5 none d0 0 0 [.ref 4, .int x0, .int x1] n S I J R (rk_qv n S I9 J R True)) (hr1 : ∀ (n : Nat) (S : rk_Sh) (I : rk_I) (J : rk_J) (R : rk_R) (x0 : Int32) (I9 : rk_I), rk_LC S R → rec 1 x0 0 I = some I9 → CW G l yX2_denial cX2_denial 3 none d0 0 0 [.ref 4, .int x0] n S I J R (rk_qv n S I9 J R True)) (hr2 : ∀ (n : Nat) (S : rk_Sh) (I : rk_I) (J : rk_J) (R : rk_R) (x0 : Int32) (I9 : rk_I), rk_LC S R → rec 2 x0 0 I = some I9 → CW G l yX2_one cX2_one 3 none d0 0 0 [.ref 4, .int x0] n S I J R (rk_qv n S I9 J R True)) (hd : 1 ≤ d) (hL : rk_LC S R) (he : ∀ (w0 : Int32) (I9 : rk_I), r = (w0, I9) → AW G l yX2_phrase cX2_phrase 5 none d kc ks 80 [some (.ref 4), some (.int u1), some (.int u2), some (.int w0), none] [] n S I9 J R Q) :
    ∀ (m9 : Nat) (s3 : Int32) (I : rk_I), rk_loop (fun a9 => f_X2_phrase_l32 rec a9.2 u1 u2 a9.1) m9 (s3, I) = some r → AW G l yX2_phrase cX2_phrase 5 none d kc ks 32 [some (.ref 4), some (.int u1), some (.int u2), some (.int s3), none] [] n S I J R Q := by
  intro m9
  induction m9 with
  | zero => intro s3 I hf; cases hf
  | succ m9 ih =>
    intro s3 I hf 
    obtain ⟨r9, hf, hr⟩ := rk_loop_s hf
    exact b_X2_phrase_l32 hd0 hr0 hr1 hr2 hd hL hf (fun _ _ h9 => by subst h9; exact ih _ _ hr) (fun _ _ h9 => by subst h9; exact he _ _ hr.symm)
noncomputable def f_X2_phrase (rec : Nat → Int32 → Int32 → rk_I → Option (rk_I)) (I : rk_I) (a1 : Int32) (a2 : Int32) : Option (rk_I) :=
if a1 = 2 then (
(rec 1 a2 0 I).bind fun I4 =>
some I4) else (
if a1 < 5 then (
(rec 0 (a1 + 1) a2 I).bind fun I1 =>
rk_b2 (rk_while (fun a9 => f_X2_phrase_l32 rec a9.2 a1 a2 a9.1) (0, I1)) fun x1 I2 =>
some I2) else (
(rec 2 a2 0 I).bind fun I3 =>
some I3))
theorem b_X2_phrase {G : rk_G} {l : Launch} {d kc ks : Nat} {n : Nat} {S : rk_Sh} {I : rk_I} {J : rk_J} {R : rk_R} {Q : rk_Q} {a1 : Int32} {a2 : Int32} {r : rk_I} {d0 : Nat} {rec : Nat → Int32 → Int32 → rk_I → Option (rk_I)} (hd0 : d0 + 1 ≤ d) (hr0 : ∀ (n : Nat) (S : rk_Sh) (I : rk_I) (J : rk_J) (R : rk_R) (x0 : Int32) (x1 : Int32) (I9 : rk_I), rk_LC S R → rec 0 x0 x1 I = some I9 → CW G l yX2_phrase cX2_phrase 5 none d0 0 0 [.ref 4, .int x0, .int x1] n S I J R (rk_qv n S I9 J R True)) (hr1 : ∀ (n : Nat) (S : rk_Sh) (I : rk_I) (J : rk_J) (R : rk_R) (x0 : Int32) (I9 : rk_I), rk_LC S R → rec 1 x0 0 I = some I9 → CW G l yX2_denial cX2_denial 3 none d0 0 0 [.ref 4, .int x0] n S I J R (rk_qv n S I9 J R True)) (hr2 : ∀ (n : Nat) (S : rk_Sh) (I : rk_I) (J : rk_J) (R : rk_R) (x0 : Int32) (I9 : rk_I), rk_LC S R → rec 2 x0 0 I = some I9 → CW G l yX2_one cX2_one 3 none d0 0 0 [.ref 4, .int x0] n S I J R (rk_qv n S I9 J R True)) (hd : 1 ≤ d) (hL : rk_LC S R) (hf : f_X2_phrase rec I a1 a2 = some r) (hq : ∀ (I9 : rk_I), r = I9 → Q (none) n S I9 J R) :
    AW G l yX2_phrase cX2_phrase 5 none d kc ks 0 [some (.ref 4), some (.int a1), some (.int a2), none, none] [] n S I J R Q := by
  unfold f_X2_phrase at hf
  refine AW_iload_n1 dX2_phrase_0 ?_
  refine AW_iconst (v := 2) dX2_phrase_1 (by decide) ?_
  refine AW_icmp_ne 11 dX2_phrase_2 (by decide) (fun h1 => ?_) (fun h1 => ?_)
  · replace hf := rk_if hf h1
    refine AW_iload_n1 dX2_phrase_11 ?_
    refine AW_iconst (v := 5) dX2_phrase_12 (by decide) ?_
    refine AW_icmp_lt 22 dX2_phrase_13 (by decide) (fun h2 => ?_) (fun h2 => ?_)
    · replace hf := rk_it hf h2
      refine AW_aload_n0 dX2_phrase_22 ?_
      refine AW_iload_n1 dX2_phrase_23 ?_
      refine AW_iconst (v := 1) dX2_phrase_24 (by decide) ?_
      refine AW_iadd dX2_phrase_25 ?_
      refine AW_iload_n2 dX2_phrase_26 ?_
      replace hf := rk_bd hf
      obtain ⟨I1, e1, hf⟩ := hf
      refine AW_iV2vz (hr0 _ _ _ _ _ _ _ _ hL e1) dX2_phrase_27 kl_X2_49 (hL.1 4 (by decide)) rfl hd0 (by decide) (Nat.le_of_ble_eq_true rfl) (fun _ => ?_)
      refine AW_iconst (v := 0) dX2_phrase_30 (by decide) ?_
      refine AW_istore_n3 dX2_phrase_31 (by decide) rfl ?_
      refine AW_sb (rk_sbs (rk_sbs (rk_sbs (rk_sbs (rk_sbn rk_sb0))))) ?_
      replace hf := rk_bd2 hf
      obtain ⟨x1, I2, e2, hf⟩ := hf
      obtain ⟨m1, e2⟩ := rk_while_sp e2
      refine L_X2_phrase_w32 hd0 hr0 hr1 hr2 (Nat.le_trans (by decide) hd) hL ?_ m1 _ _ e2
      intro x1 I2 h9
      cases h9
      exact AW_vret dX2_phrase_80 rfl (hq _ (Option.some.inj hf).symm)
    · replace hf := rk_if hf h2
      refine AW_aload_n0 dX2_phrase_16 ?_
      refine AW_iload_n2 dX2_phrase_17 ?_
      replace hf := rk_bd hf
      obtain ⟨I3, e3, hf⟩ := hf
      refine AW_iV1vz (hr2 _ _ _ _ _ _ _ hL e3) dX2_phrase_18 kl_X2_124 (hL.1 4 (by decide)) rfl hd0 (by decide) (Nat.le_of_ble_eq_true rfl) (fun _ => ?_)
      exact AW_vret dX2_phrase_21 rfl (hq _ (Option.some.inj hf).symm)
  · replace hf := rk_it hf h1
    refine AW_aload_n0 dX2_phrase_5 ?_
    refine AW_iload_n2 dX2_phrase_6 ?_
    replace hf := rk_bd hf
    obtain ⟨I4, e4, hf⟩ := hf
    refine AW_iV1vz (hr1 _ _ _ _ _ _ _ hL e4) dX2_phrase_7 kl_X2_121 (hL.1 4 (by decide)) rfl hd0 (by decide) (Nat.le_of_ble_eq_true rfl) (fun _ => ?_)
    exact AW_vret dX2_phrase_10 rfl (hq _ (Option.some.inj hf).symm)
theorem w_X2_phrase {G : rk_G} {l : Launch} {d : Nat} {n : Nat} {S : rk_Sh} {I : rk_I} {J : rk_J} {R : rk_R} {a1 : Int32} {a2 : Int32} {I8 : rk_I} {d0 : Nat} {rec : Nat → Int32 → Int32 → rk_I → Option (rk_I)} (hd0 : d0 + 1 ≤ d) (hr0 : ∀ (n : Nat) (S : rk_Sh) (I : rk_I) (J : rk_J) (R : rk_R) (x0 : Int32) (x1 : Int32) (I9 : rk_I), rk_LC S R → rec 0 x0 x1 I = some I9 → CW G l yX2_phrase cX2_phrase 5 none d0 0 0 [.ref 4, .int x0, .int x1] n S I J R (rk_qv n S I9 J R True)) (hr1 : ∀ (n : Nat) (S : rk_Sh) (I : rk_I) (J : rk_J) (R : rk_R) (x0 : Int32) (I9 : rk_I), rk_LC S R → rec 1 x0 0 I = some I9 → CW G l yX2_denial cX2_denial 3 none d0 0 0 [.ref 4, .int x0] n S I J R (rk_qv n S I9 J R True)) (hr2 : ∀ (n : Nat) (S : rk_Sh) (I : rk_I) (J : rk_J) (R : rk_R) (x0 : Int32) (I9 : rk_I), rk_LC S R → rec 2 x0 0 I = some I9 → CW G l yX2_one cX2_one 3 none d0 0 0 [.ref 4, .int x0] n S I J R (rk_qv n S I9 J R True)) (hd : 1 ≤ d) (hL : rk_LC S R) (hf : f_X2_phrase rec I a1 a2 = some I8) :
    CW G l yX2_phrase cX2_phrase 5 none d 0 0 [.ref 4, .int a1, .int a2] n S I J R (rk_qv n S I8 J R True) :=
  CW.of (by decide +kernel) (Nat.le_of_ble_eq_true rfl) (rk_sbs (rk_sbs (rk_sbs (rk_sbe (rk_sbe rk_sb0))))) (b_X2_phrase hd0 hr0 hr1 hr2 hd hL hf (fun I9 h9 => by cases h9; exact ⟨rfl, rfl, rfl, rfl, rfl, rfl, trivial⟩))
noncomputable def f_X2_denial (rec : Nat → Int32 → Int32 → rk_I → Option (rk_I)) (I : rk_I) (a1 : Int32) : Option (rk_I) :=
(f_X2_token I).bind fun x1 =>
if x1 = 8 then (
rk_b2 (f_X2_opens I a1) fun x3 I8 =>
if x3 = 0 then (
some I8) else (
(rec 1 (a1 + 1) 0 I8).bind fun I9 =>
(f_X2_emit I9 8).bind fun I10 =>
some I10)) else (
(rec 0 3 a1 I).bind fun I1 =>
(f_X2_token I1).bind fun x2 =>
if x2 = 60 then (
(f_X2_next I1).bind fun I2 =>
(rec 0 3 a1 I2).bind fun I3 =>
(f_X2_emit I3 x2).bind fun I4 =>
some I4) else (
if x2 = 61 then (
(f_X2_next I1).bind fun I5 =>
(rec 0 3 a1 I5).bind fun I6 =>
(f_X2_emit I6 x2).bind fun I7 =>
some I7) else (
some I1)))
theorem b_X2_denial {G : rk_G} {l : Launch} {d kc ks : Nat} {n : Nat} {S : rk_Sh} {I : rk_I} {J : rk_J} {R : rk_R} {Q : rk_Q} {a1 : Int32} {r : rk_I} {d0 : Nat} {rec : Nat → Int32 → Int32 → rk_I → Option (rk_I)} (hd0 : d0 + 1 ≤ d) (hr0 : ∀ (n : Nat) (S : rk_Sh) (I : rk_I) (J : rk_J) (R : rk_R) (x0 : Int32) (x1 : Int32) (I9 : rk_I), rk_LC S R → rec 0 x0 x1 I = some I9 → CW G l yX2_phrase cX2_phrase 5 none d0 0 0 [.ref 4, .int x0, .int x1] n S I J R (rk_qv n S I9 J R True)) (hr1 : ∀ (n : Nat) (S : rk_Sh) (I : rk_I) (J : rk_J) (R : rk_R) (x0 : Int32) (I9 : rk_I), rk_LC S R → rec 1 x0 0 I = some I9 → CW G l yX2_denial cX2_denial 3 none d0 0 0 [.ref 4, .int x0] n S I J R (rk_qv n S I9 J R True)) (hr2 : ∀ (n : Nat) (S : rk_Sh) (I : rk_I) (J : rk_J) (R : rk_R) (x0 : Int32) (I9 : rk_I), rk_LC S R → rec 2 x0 0 I = some I9 → CW G l yX2_one cX2_one 3 none d0 0 0 [.ref 4, .int x0] n S I J R (rk_qv n S I9 J R True)) (hd : 2 ≤ d) (hL : rk_LC S R) (hf : f_X2_denial rec I a1 = some r) (hq : ∀ (I9 : rk_I), r = I9 → Q (none) n S I9 J R) :
    AW G l yX2_denial cX2_denial 3 none d kc ks 0 [some (.ref 4), some (.int a1), none] [] n S I J R Q := by
  unfold f_X2_denial at hf
  refine AW_aload_n0 dX2_denial_0 ?_
  replace hf := rk_bd hf
  obtain ⟨x1, e1, hf⟩ := hf
  refine AW_iV0iz (w_X2_token (d := 0) hL e1) dX2_denial_1 kl_X2_53 (hL.1 4 (by decide)) rfl (Nat.le_trans (by decide) hd) (by decide) (Nat.le_of_ble_eq_true rfl) (fun _ => ?_)
  refine AW_bipush (v := 8) dX2_denial_4 (by decide) ?_
  refine AW_icmp_ne 31 dX2_denial_6 (by decide) (fun h1 => ?_) (fun h1 => ?_)
  · replace hf := rk_if hf h1
    refine AW_aload_n0 dX2_denial_31 ?_
    refine AW_iconst (v := 3) dX2_denial_32 (by decide) ?_
    refine AW_iload_n1 dX2_denial_33 ?_
    replace hf := rk_bd hf
    obtain ⟨I1, e2, hf⟩ := hf
    refine AW_iV2vz (hr0 _ _ _ _ _ _ _ _ hL e2) dX2_denial_34 kl_X2_49 (hL.1 4 (by decide)) rfl hd0 (by decide) (Nat.le_of_ble_eq_true rfl) (fun _ => ?_)
    refine AW_aload_n0 dX2_denial_37 ?_
    replace hf := rk_bd hf
    obtain ⟨x2, e3, hf⟩ := hf
    refine AW_iV0iz (w_X2_token (d := 0) hL e3) dX2_denial_38 kl_X2_53 (hL.1 4 (by decide)) rfl (Nat.le_trans (by decide) hd) (by decide) (Nat.le_of_ble_eq_true rfl) (fun _ => ?_)
    refine AW_istore_n2 dX2_denial_41 (by decide) rfl ?_
    refine AW_iload_n2 dX2_denial_42 ?_
    refine AW_bipush (v := 60) dX2_denial_43 (by decide) ?_
    refine AW_icmp_eq 54 dX2_denial_45 (by decide) (fun h2 => ?_) (fun h2 => ?_)
    · replace hf := rk_it hf h2
      refine AW_aload_n0 dX2_denial_54 ?_
      replace hf := rk_bd hf
      obtain ⟨I2, e4, hf⟩ := hf
      refine AW_iV0vz (w_X2_next (d := 0) hL e4) dX2_denial_55 kl_X2_118 (hL.1 4 (by decide)) rfl (Nat.le_trans (by decide) hd) (by decide) (Nat.le_of_ble_eq_true rfl) (fun _ => ?_)
      refine AW_aload_n0 dX2_denial_58 ?_
      refine AW_iconst (v := 3) dX2_denial_59 (by decide) ?_
      refine AW_iload_n1 dX2_denial_60 ?_
      replace hf := rk_bd hf
      obtain ⟨I3, e5, hf⟩ := hf
      refine AW_iV2vz (hr0 _ _ _ _ _ _ _ _ hL e5) dX2_denial_61 kl_X2_49 (hL.1 4 (by decide)) rfl hd0 (by decide) (Nat.le_of_ble_eq_true rfl) (fun _ => ?_)
      refine AW_aload_n0 dX2_denial_64 ?_
      refine AW_iload_n2 dX2_denial_65 ?_
      replace hf := rk_bd hf
      obtain ⟨I4, e6, hf⟩ := hf
      refine AW_iV1vz (w_X2_emit (d := 0) hL e6) dX2_denial_66 kl_X2_131 (hL.1 4 (by decide)) rfl (Nat.le_trans (by decide) hd) (by decide) (Nat.le_of_ble_eq_true rfl) (fun _ => ?_)
      exact AW_vret dX2_denial_69 rfl (hq _ (Option.some.inj hf).symm)
    · replace hf := rk_if hf h2
      refine AW_iload_n2 dX2_denial_48 ?_
      refine AW_bipush (v := 61) dX2_denial_49 (by decide) ?_
      refine AW_icmp_ne 69 dX2_denial_51 (by decide) (fun h3 => ?_) (fun h3 => ?_)
      · replace hf := rk_if hf h3
        exact AW_vret dX2_denial_69 rfl (hq _ (Option.some.inj hf).symm)
      · replace hf := rk_it hf h3
        refine AW_aload_n0 dX2_denial_54 ?_
        replace hf := rk_bd hf
        obtain ⟨I5, e7, hf⟩ := hf
        refine AW_iV0vz (w_X2_next (d := 0) hL e7) dX2_denial_55 kl_X2_118 (hL.1 4 (by decide)) rfl (Nat.le_trans (by decide) hd) (by decide) (Nat.le_of_ble_eq_true rfl) (fun _ => ?_)
        refine AW_aload_n0 dX2_denial_58 ?_
        refine AW_iconst (v := 3) dX2_denial_59 (by decide) ?_
        refine AW_iload_n1 dX2_denial_60 ?_
        replace hf := rk_bd hf
        obtain ⟨I6, e8, hf⟩ := hf
        refine AW_iV2vz (hr0 _ _ _ _ _ _ _ _ hL e8) dX2_denial_61 kl_X2_49 (hL.1 4 (by decide)) rfl hd0 (by decide) (Nat.le_of_ble_eq_true rfl) (fun _ => ?_)
        refine AW_aload_n0 dX2_denial_64 ?_
        refine AW_iload_n2 dX2_denial_65 ?_
        replace hf := rk_bd hf
        obtain ⟨I7, e9, hf⟩ := hf
        refine AW_iV1vz (w_X2_emit (d := 0) hL e9) dX2_denial_66 kl_X2_131 (hL.1 4 (by decide)) rfl (Nat.le_trans (by decide) hd) (by decide) (Nat.le_of_ble_eq_true rfl) (fun _ => ?_)
        exact AW_vret dX2_denial_69 rfl (hq _ (Option.some.inj hf).symm)
  · replace hf := rk_it hf h1
    refine AW_aload_n0 dX2_denial_9 ?_
    refine AW_iload_n1 dX2_denial_10 ?_
    replace hf := rk_bd2 hf
    obtain ⟨x3, I8, e10, hf⟩ := hf
    refine AW_iV1iz (w_X2_opens (d := 1) (Nat.le_refl _) hL e10) dX2_denial_11 kl_X2_134 (hL.1 4 (by decide)) rfl (Nat.le_trans (by decide) hd) (by decide) (Nat.le_of_ble_eq_true rfl) (fun _ => ?_)
    refine AW_if_eq 30 dX2_denial_14 (by decide) (fun h4 => ?_) (fun h4 => ?_)
    · replace hf := rk_it hf h4
      exact AW_vret dX2_denial_30 rfl (hq _ (Option.some.inj hf).symm)
    · replace hf := rk_if hf h4
      refine AW_aload_n0 dX2_denial_17 ?_
      refine AW_iload_n1 dX2_denial_18 ?_
      refine AW_iconst (v := 1) dX2_denial_19 (by decide) ?_
      refine AW_iadd dX2_denial_20 ?_
      replace hf := rk_bd hf
      obtain ⟨I9, e11, hf⟩ := hf
      refine AW_iV1vz (hr1 _ _ _ _ _ _ _ hL e11) dX2_denial_21 kl_X2_121 (hL.1 4 (by decide)) rfl hd0 (by decide) (Nat.le_of_ble_eq_true rfl) (fun _ => ?_)
      refine AW_aload_n0 dX2_denial_24 ?_
      refine AW_bipush (v := 8) dX2_denial_25 (by decide) ?_
      replace hf := rk_bd hf
      obtain ⟨I10, e12, hf⟩ := hf
      refine AW_iV1vz (w_X2_emit (d := 0) hL e12) dX2_denial_27 kl_X2_131 (hL.1 4 (by decide)) rfl (Nat.le_trans (by decide) hd) (by decide) (Nat.le_of_ble_eq_true rfl) (fun _ => ?_)
      exact AW_vret dX2_denial_30 rfl (hq _ (Option.some.inj hf).symm)
theorem w_X2_denial {G : rk_G} {l : Launch} {d : Nat} {n : Nat} {S : rk_Sh} {I : rk_I} {J : rk_J} {R : rk_R} {a1 : Int32} {I8 : rk_I} {d0 : Nat} {rec : Nat → Int32 → Int32 → rk_I → Option (rk_I)} (hd0 : d0 + 1 ≤ d) (hr0 : ∀ (n : Nat) (S : rk_Sh) (I : rk_I) (J : rk_J) (R : rk_R) (x0 : Int32) (x1 : Int32) (I9 : rk_I), rk_LC S R → rec 0 x0 x1 I = some I9 → CW G l yX2_phrase cX2_phrase 5 none d0 0 0 [.ref 4, .int x0, .int x1] n S I J R (rk_qv n S I9 J R True)) (hr1 : ∀ (n : Nat) (S : rk_Sh) (I : rk_I) (J : rk_J) (R : rk_R) (x0 : Int32) (I9 : rk_I), rk_LC S R → rec 1 x0 0 I = some I9 → CW G l yX2_denial cX2_denial 3 none d0 0 0 [.ref 4, .int x0] n S I J R (rk_qv n S I9 J R True)) (hr2 : ∀ (n : Nat) (S : rk_Sh) (I : rk_I) (J : rk_J) (R : rk_R) (x0 : Int32) (I9 : rk_I), rk_LC S R → rec 2 x0 0 I = some I9 → CW G l yX2_one cX2_one 3 none d0 0 0 [.ref 4, .int x0] n S I J R (rk_qv n S I9 J R True)) (hd : 2 ≤ d) (hL : rk_LC S R) (hf : f_X2_denial rec I a1 = some I8) :
    CW G l yX2_denial cX2_denial 3 none d 0 0 [.ref 4, .int a1] n S I J R (rk_qv n S I8 J R True) :=
  CW.of (by decide +kernel) (Nat.le_of_ble_eq_true rfl) (rk_sbs (rk_sbs (rk_sbe rk_sb0))) (b_X2_denial hd0 hr0 hr1 hr2 hd hL hf (fun I9 h9 => by cases h9; exact ⟨rfl, rfl, rfl, rfl, rfl, rfl, trivial⟩))
noncomputable def f_X2_one_j59 (rec : Nat → Int32 → Int32 → rk_I → Option (rk_I)) (I : rk_I) (j1 : Int32) (j2 : Int32) : Option (rk_I) :=
if j2 = 40 then (
rk_b2 (f_X2_opens I j1) fun x1 I2 =>
if x1 = 0 then (
(f_X2_fail I2).bind fun I3 =>
some I3) else (
(rec 0 0 (j1 + 1) I2).bind fun I4 =>
(f_X2_take I4 41).bind fun I5 =>
some I5)) else (
(f_X2_fail I).bind fun I1 =>
some I1)
theorem b_X2_one_j59 {G : rk_G} {l : Launch} {d kc ks : Nat} {n : Nat} {S : rk_Sh} {I : rk_I} {J : rk_J} {R : rk_R} {Q : rk_Q} {j1 : Int32} {j2 : Int32} {r : rk_I} {d0 : Nat} {rec : Nat → Int32 → Int32 → rk_I → Option (rk_I)} (hd0 : d0 + 1 ≤ d) (hr0 : ∀ (n : Nat) (S : rk_Sh) (I : rk_I) (J : rk_J) (R : rk_R) (x0 : Int32) (x1 : Int32) (I9 : rk_I), rk_LC S R → rec 0 x0 x1 I = some I9 → CW G l yX2_phrase cX2_phrase 5 none d0 0 0 [.ref 4, .int x0, .int x1] n S I J R (rk_qv n S I9 J R True)) (hr1 : ∀ (n : Nat) (S : rk_Sh) (I : rk_I) (J : rk_J) (R : rk_R) (x0 : Int32) (I9 : rk_I), rk_LC S R → rec 1 x0 0 I = some I9 → CW G l yX2_denial cX2_denial 3 none d0 0 0 [.ref 4, .int x0] n S I J R (rk_qv n S I9 J R True)) (hr2 : ∀ (n : Nat) (S : rk_Sh) (I : rk_I) (J : rk_J) (R : rk_R) (x0 : Int32) (I9 : rk_I), rk_LC S R → rec 2 x0 0 I = some I9 → CW G l yX2_one cX2_one 3 none d0 0 0 [.ref 4, .int x0] n S I J R (rk_qv n S I9 J R True)) (hd : 2 ≤ d) (hL : rk_LC S R) (hf : f_X2_one_j59 rec I j1 j2 = some r) (hq : ∀ (I9 : rk_I), r = I9 → Q (none) n S I9 J R) :
    AW G l yX2_one cX2_one 3 none d kc ks 59 [some (.ref 4), some (.int j1), some (.int j2)] [] n S I J R Q := by
  unfold f_X2_one_j59 at hf
  refine AW_iload_n2 dX2_one_59 ?_
  refine AW_bipush (v := 40) dX2_one_60 (by decide) ?_
  refine AW_icmp_ne 90 dX2_one_62 (by decide) (fun h1 => ?_) (fun h1 => ?_)
  · replace hf := rk_if hf h1
    refine AW_aload_n0 dX2_one_90 ?_
    replace hf := rk_bd hf
    obtain ⟨I1, e1, hf⟩ := hf
    refine AW_iV0vz (w_X2_fail (d := 0) hL e1) dX2_one_91 kl_X2_57 (hL.1 4 (by decide)) rfl (Nat.le_trans (by decide) hd) (by decide) (Nat.le_of_ble_eq_true rfl) (fun _ => ?_)
    exact AW_vret dX2_one_94 rfl (hq _ (Option.some.inj hf).symm)
  · replace hf := rk_it hf h1
    refine AW_aload_n0 dX2_one_65 ?_
    refine AW_iload_n1 dX2_one_66 ?_
    replace hf := rk_bd2 hf
    obtain ⟨x1, I2, e2, hf⟩ := hf
    refine AW_iV1iz (w_X2_opens (d := 1) (Nat.le_refl _) hL e2) dX2_one_67 kl_X2_134 (hL.1 4 (by decide)) rfl (Nat.le_trans (by decide) hd) (by decide) (Nat.le_of_ble_eq_true rfl) (fun _ => ?_)
    refine AW_if_eq 90 dX2_one_70 (by decide) (fun h2 => ?_) (fun h2 => ?_)
    · replace hf := rk_it hf h2
      refine AW_aload_n0 dX2_one_90 ?_
      replace hf := rk_bd hf
      obtain ⟨I3, e3, hf⟩ := hf
      refine AW_iV0vz (w_X2_fail (d := 0) hL e3) dX2_one_91 kl_X2_57 (hL.1 4 (by decide)) rfl (Nat.le_trans (by decide) hd) (by decide) (Nat.le_of_ble_eq_true rfl) (fun _ => ?_)
      exact AW_vret dX2_one_94 rfl (hq _ (Option.some.inj hf).symm)
    · replace hf := rk_if hf h2
      refine AW_aload_n0 dX2_one_73 ?_
      refine AW_iconst (v := 0) dX2_one_74 (by decide) ?_
      refine AW_iload_n1 dX2_one_75 ?_
      refine AW_iconst (v := 1) dX2_one_76 (by decide) ?_
      refine AW_iadd dX2_one_77 ?_
      replace hf := rk_bd hf
      obtain ⟨I4, e4, hf⟩ := hf
      refine AW_iV2vz (hr0 _ _ _ _ _ _ _ _ hL e4) dX2_one_78 kl_X2_49 (hL.1 4 (by decide)) rfl hd0 (by decide) (Nat.le_of_ble_eq_true rfl) (fun _ => ?_)
      refine AW_aload_n0 dX2_one_81 ?_
      refine AW_bipush (v := 41) dX2_one_82 (by decide) ?_
      replace hf := rk_bd hf
      obtain ⟨I5, e5, hf⟩ := hf
      refine AW_iV1vz (w_X2_take (d := 1) (Nat.le_refl _) hL e5) dX2_one_84 kl_X2_45 (hL.1 4 (by decide)) rfl (Nat.le_trans (by decide) hd) (by decide) (Nat.le_of_ble_eq_true rfl) (fun _ => ?_)
      refine AW_goto 94 dX2_one_87 (by decide) ?_
      exact AW_vret dX2_one_94 rfl (hq _ (Option.some.inj hf).symm)
noncomputable def f_X2_one (rec : Nat → Int32 → Int32 → rk_I → Option (rk_I)) (I : rk_I) (a1 : Int32) : Option (rk_I) :=
(f_X2_token I).bind fun x1 =>
if x1 < 6 then (
(f_X2_next I).bind fun I1 =>
(f_X2_emit I1 x1).bind fun I2 =>
some I2) else (
if x1 < 100 then (
if x1 = 45 then (
rk_b2 (f_X2_opens I a1) fun x2 I3 =>
if x2 = 0 then (
f_X2_one_j59 rec I3 a1 x1) else (
(rec 2 (a1 + 1) 0 I3).bind fun I4 =>
(f_X2_emit I4 22).bind fun I5 =>
some I5)) else (
f_X2_one_j59 rec I a1 x1)) else (
(f_X2_next I).bind fun I6 =>
(f_X2_emit I6 x1).bind fun I7 =>
some I7))
theorem b_X2_one {G : rk_G} {l : Launch} {d kc ks : Nat} {n : Nat} {S : rk_Sh} {I : rk_I} {J : rk_J} {R : rk_R} {Q : rk_Q} {a1 : Int32} {r : rk_I} {d0 : Nat} {rec : Nat → Int32 → Int32 → rk_I → Option (rk_I)} (hd0 : d0 + 1 ≤ d) (hr0 : ∀ (n : Nat) (S : rk_Sh) (I : rk_I) (J : rk_J) (R : rk_R) (x0 : Int32) (x1 : Int32) (I9 : rk_I), rk_LC S R → rec 0 x0 x1 I = some I9 → CW G l yX2_phrase cX2_phrase 5 none d0 0 0 [.ref 4, .int x0, .int x1] n S I J R (rk_qv n S I9 J R True)) (hr1 : ∀ (n : Nat) (S : rk_Sh) (I : rk_I) (J : rk_J) (R : rk_R) (x0 : Int32) (I9 : rk_I), rk_LC S R → rec 1 x0 0 I = some I9 → CW G l yX2_denial cX2_denial 3 none d0 0 0 [.ref 4, .int x0] n S I J R (rk_qv n S I9 J R True)) (hr2 : ∀ (n : Nat) (S : rk_Sh) (I : rk_I) (J : rk_J) (R : rk_R) (x0 : Int32) (I9 : rk_I), rk_LC S R → rec 2 x0 0 I = some I9 → CW G l yX2_one cX2_one 3 none d0 0 0 [.ref 4, .int x0] n S I J R (rk_qv n S I9 J R True)) (hd : 2 ≤ d) (hL : rk_LC S R) (hf : f_X2_one rec I a1 = some r) (hq : ∀ (I9 : rk_I), r = I9 → Q (none) n S I9 J R) :
    AW G l yX2_one cX2_one 3 none d kc ks 0 [some (.ref 4), some (.int a1), none] [] n S I J R Q := by
  unfold f_X2_one at hf
  refine AW_aload_n0 dX2_one_0 ?_
  replace hf := rk_bd hf
  obtain ⟨x1, e1, hf⟩ := hf
  refine AW_iV0iz (w_X2_token (d := 0) hL e1) dX2_one_1 kl_X2_53 (hL.1 4 (by decide)) rfl (Nat.le_trans (by decide) hd) (by decide) (Nat.le_of_ble_eq_true rfl) (fun _ => ?_)
  refine AW_istore_n2 dX2_one_4 (by decide) rfl ?_
  refine AW_iload_n2 dX2_one_5 ?_
  refine AW_bipush (v := 6) dX2_one_6 (by decide) ?_
  refine AW_icmp_lt 17 dX2_one_8 (by decide) (fun h1 => ?_) (fun h1 => ?_)
  · replace hf := rk_it hf h1
    refine AW_aload_n0 dX2_one_17 ?_
    replace hf := rk_bd hf
    obtain ⟨I1, e2, hf⟩ := hf
    refine AW_iV0vz (w_X2_next (d := 0) hL e2) dX2_one_18 kl_X2_118 (hL.1 4 (by decide)) rfl (Nat.le_trans (by decide) hd) (by decide) (Nat.le_of_ble_eq_true rfl) (fun _ => ?_)
    refine AW_aload_n0 dX2_one_21 ?_
    refine AW_iload_n2 dX2_one_22 ?_
    replace hf := rk_bd hf
    obtain ⟨I2, e3, hf⟩ := hf
    refine AW_iV1vz (w_X2_emit (d := 0) hL e3) dX2_one_23 kl_X2_131 (hL.1 4 (by decide)) rfl (Nat.le_trans (by decide) hd) (by decide) (Nat.le_of_ble_eq_true rfl) (fun _ => ?_)
    refine AW_goto 94 dX2_one_26 (by decide) ?_
    exact AW_vret dX2_one_94 rfl (hq _ (Option.some.inj hf).symm)
  · replace hf := rk_if hf h1
    refine AW_iload_n2 dX2_one_11 ?_
    refine AW_bipush (v := 100) dX2_one_12 (by decide) ?_
    refine AW_icmp_lt 29 dX2_one_14 (by decide) (fun h2 => ?_) (fun h2 => ?_)
    · replace hf := rk_it hf h2
      refine AW_iload_n2 dX2_one_29 ?_
      refine AW_bipush (v := 45) dX2_one_30 (by decide) ?_
      refine AW_icmp_ne 59 dX2_one_32 (by decide) (fun h3 => ?_) (fun h3 => ?_)
      · replace hf := rk_if hf h3
        refine AW_sb (rk_sbs (rk_sbs (rk_sbs rk_sb0))) ?_
        exact b_X2_one_j59 hd0 hr0 hr1 hr2 (Nat.le_trans (by decide) hd) hL hf hq
      · replace hf := rk_it hf h3
        refine AW_aload_n0 dX2_one_35 ?_
        refine AW_iload_n1 dX2_one_36 ?_
        replace hf := rk_bd2 hf
        obtain ⟨x2, I3, e4, hf⟩ := hf
        refine AW_iV1iz (w_X2_opens (d := 1) (Nat.le_refl _) hL e4) dX2_one_37 kl_X2_134 (hL.1 4 (by decide)) rfl (Nat.le_trans (by decide) hd) (by decide) (Nat.le_of_ble_eq_true rfl) (fun _ => ?_)
        refine AW_if_eq 59 dX2_one_40 (by decide) (fun h4 => ?_) (fun h4 => ?_)
        · replace hf := rk_it hf h4
          refine AW_sb (rk_sbs (rk_sbs (rk_sbs rk_sb0))) ?_
          exact b_X2_one_j59 hd0 hr0 hr1 hr2 (Nat.le_trans (by decide) hd) hL hf hq
        · replace hf := rk_if hf h4
          refine AW_aload_n0 dX2_one_43 ?_
          refine AW_iload_n1 dX2_one_44 ?_
          refine AW_iconst (v := 1) dX2_one_45 (by decide) ?_
          refine AW_iadd dX2_one_46 ?_
          replace hf := rk_bd hf
          obtain ⟨I4, e5, hf⟩ := hf
          refine AW_iV1vz (hr2 _ _ _ _ _ _ _ hL e5) dX2_one_47 kl_X2_124 (hL.1 4 (by decide)) rfl hd0 (by decide) (Nat.le_of_ble_eq_true rfl) (fun _ => ?_)
          refine AW_aload_n0 dX2_one_50 ?_
          refine AW_bipush (v := 22) dX2_one_51 (by decide) ?_
          replace hf := rk_bd hf
          obtain ⟨I5, e6, hf⟩ := hf
          refine AW_iV1vz (w_X2_emit (d := 0) hL e6) dX2_one_53 kl_X2_131 (hL.1 4 (by decide)) rfl (Nat.le_trans (by decide) hd) (by decide) (Nat.le_of_ble_eq_true rfl) (fun _ => ?_)
          refine AW_goto 94 dX2_one_56 (by decide) ?_
          exact AW_vret dX2_one_94 rfl (hq _ (Option.some.inj hf).symm)
    · replace hf := rk_if hf h2
      refine AW_aload_n0 dX2_one_17 ?_
      replace hf := rk_bd hf
      obtain ⟨I6, e7, hf⟩ := hf
      refine AW_iV0vz (w_X2_next (d := 0) hL e7) dX2_one_18 kl_X2_118 (hL.1 4 (by decide)) rfl (Nat.le_trans (by decide) hd) (by decide) (Nat.le_of_ble_eq_true rfl) (fun _ => ?_)
      refine AW_aload_n0 dX2_one_21 ?_
      refine AW_iload_n2 dX2_one_22 ?_
      replace hf := rk_bd hf
      obtain ⟨I7, e8, hf⟩ := hf
      refine AW_iV1vz (w_X2_emit (d := 0) hL e8) dX2_one_23 kl_X2_131 (hL.1 4 (by decide)) rfl (Nat.le_trans (by decide) hd) (by decide) (Nat.le_of_ble_eq_true rfl) (fun _ => ?_)
      refine AW_goto 94 dX2_one_26 (by decide) ?_
      exact AW_vret dX2_one_94 rfl (hq _ (Option.some.inj hf).symm)
theorem w_X2_one {G : rk_G} {l : Launch} {d : Nat} {n : Nat} {S : rk_Sh} {I : rk_I} {J : rk_J} {R : rk_R} {a1 : Int32} {I8 : rk_I} {d0 : Nat} {rec : Nat → Int32 → Int32 → rk_I → Option (rk_I)} (hd0 : d0 + 1 ≤ d) (hr0 : ∀ (n : Nat) (S : rk_Sh) (I : rk_I) (J : rk_J) (R : rk_R) (x0 : Int32) (x1 : Int32) (I9 : rk_I), rk_LC S R → rec 0 x0 x1 I = some I9 → CW G l yX2_phrase cX2_phrase 5 none d0 0 0 [.ref 4, .int x0, .int x1] n S I J R (rk_qv n S I9 J R True)) (hr1 : ∀ (n : Nat) (S : rk_Sh) (I : rk_I) (J : rk_J) (R : rk_R) (x0 : Int32) (I9 : rk_I), rk_LC S R → rec 1 x0 0 I = some I9 → CW G l yX2_denial cX2_denial 3 none d0 0 0 [.ref 4, .int x0] n S I J R (rk_qv n S I9 J R True)) (hr2 : ∀ (n : Nat) (S : rk_Sh) (I : rk_I) (J : rk_J) (R : rk_R) (x0 : Int32) (I9 : rk_I), rk_LC S R → rec 2 x0 0 I = some I9 → CW G l yX2_one cX2_one 3 none d0 0 0 [.ref 4, .int x0] n S I J R (rk_qv n S I9 J R True)) (hd : 2 ≤ d) (hL : rk_LC S R) (hf : f_X2_one rec I a1 = some I8) :
    CW G l yX2_one cX2_one 3 none d 0 0 [.ref 4, .int a1] n S I J R (rk_qv n S I8 J R True) :=
  CW.of (by decide +kernel) (Nat.le_of_ble_eq_true rfl) (rk_sbs (rk_sbs (rk_sbe rk_sb0))) (b_X2_one hd0 hr0 hr1 hr2 hd hL hf (fun I9 h9 => by cases h9; exact ⟨rfl, rfl, rfl, rfl, rfl, rfl, trivial⟩))
noncomputable def f_gR : Nat → Nat → Int32 → Int32 → rk_I → Option (rk_I)
  | 0, _, _, _, _ => none
  | k + 1, t, x0, x1, I => if t = 0 then f_X2_phrase (f_gR k) I x0 x1 else if t = 1 then f_X2_denial (f_gR k) I x0 else f_X2_one (f_gR k) I x0
theorem GG_gR {G : rk_G} {l : Launch} : ∀ k : Nat, (∀ (n : Nat) (S : rk_Sh) (I : rk_I) (J : rk_J) (R : rk_R) (x0 : Int32) (x1 : Int32) (I9 : rk_I), rk_LC S R → f_gR k 0 x0 x1 I = some I9 → CW G l yX2_phrase cX2_phrase 5 none (k + 3) 0 0 [.ref 4, .int x0, .int x1] n S I J R (rk_qv n S I9 J R True)) ∧ (∀ (n : Nat) (S : rk_Sh) (I : rk_I) (J : rk_J) (R : rk_R) (x0 : Int32) (I9 : rk_I), rk_LC S R → f_gR k 1 x0 0 I = some I9 → CW G l yX2_denial cX2_denial 3 none (k + 3) 0 0 [.ref 4, .int x0] n S I J R (rk_qv n S I9 J R True)) ∧ (∀ (n : Nat) (S : rk_Sh) (I : rk_I) (J : rk_J) (R : rk_R) (x0 : Int32) (I9 : rk_I), rk_LC S R → f_gR k 2 x0 0 I = some I9 → CW G l yX2_one cX2_one 3 none (k + 3) 0 0 [.ref 4, .int x0] n S I J R (rk_qv n S I9 J R True)) := by
  intro k
  induction k with
  | zero => exact ⟨fun _ _ _ _ _ _ _ _ _ h => (by cases h), fun _ _ _ _ _ _ _ _ h => (by cases h), fun _ _ _ _ _ _ _ _ h => (by cases h)⟩
  | succ k ih =>
    obtain ⟨hr0, hr1, hr2⟩ := ih
    exact ⟨fun _ _ _ _ _ _ _ _ hL hf => w_X2_phrase (d0 := k + 3) (rec := f_gR k) (by omega) hr0 hr1 hr2 (by omega) hL hf, fun _ _ _ _ _ _ _ hL hf => w_X2_denial (d0 := k + 3) (rec := f_gR k) (by omega) hr0 hr1 hr2 (by omega) hL hf, fun _ _ _ _ _ _ _ hL hf => w_X2_one (d0 := k + 3) (rec := f_gR k) (by omega) hr0 hr1 hr2 (by omega) hL hf⟩
theorem w_X2_phrase_g {G : rk_G} {l : Launch} {n : Nat} {S : rk_Sh} {I : rk_I} {J : rk_J} {R : rk_R} {x0 : Int32} {x1 : Int32} {I9 : rk_I} (hL : rk_LC S R) (hf : f_gR 60 0 x0 x1 I = some I9) : CW G l yX2_phrase cX2_phrase 5 none 63 0 0 [.ref 4, .int x0, .int x1] n S I J R (rk_qv n S I9 J R True) := (GG_gR 60).1 n S I J R _ _ _ hL hf
theorem w_X2_denial_g {G : rk_G} {l : Launch} {n : Nat} {S : rk_Sh} {I : rk_I} {J : rk_J} {R : rk_R} {x0 : Int32} {I9 : rk_I} (hL : rk_LC S R) (hf : f_gR 60 1 x0 0 I = some I9) : CW G l yX2_denial cX2_denial 3 none 63 0 0 [.ref 4, .int x0] n S I J R (rk_qv n S I9 J R True) := (GG_gR 60).2.1 n S I J R _ _ hL hf
theorem w_X2_one_g {G : rk_G} {l : Launch} {n : Nat} {S : rk_Sh} {I : rk_I} {J : rk_J} {R : rk_R} {x0 : Int32} {I9 : rk_I} (hL : rk_LC S R) (hf : f_gR 60 2 x0 0 I = some I9) : CW G l yX2_one cX2_one 3 none 63 0 0 [.ref 4, .int x0] n S I J R (rk_qv n S I9 J R True) := (GG_gR 60).2.2 n S I J R _ _ hL hf
noncomputable def f_X2_read_l21 (I : rk_I) (s1 : Int32) : Option ((Int32 × rk_I) ⊕ (Int32 × rk_I)) :=
if 3 ≤ s1 then (
some (.inr (s1, I))) else (
(f_X2_take I (9 + s1)).bind fun I1 =>
(f_gR 60 0 0 0 I1).bind fun I2 =>
(f_X2_take I2 59).bind fun I3 =>
(rk_wr I3 9 3 s1 (I3 4 8)).bind fun I4 =>
some (.inl ((s1 + 1), I4)))
theorem b_X2_read_l21 {G : rk_G} {l : Launch} {d kc ks : Nat} {n : Nat} {S : rk_Sh} {I : rk_I} {J : rk_J} {R : rk_R} {Q : rk_Q} {s1 : Int32} {r : (Int32 × rk_I) ⊕ (Int32 × rk_I)} (hd : 64 ≤ d) (hL : rk_LC S R) (hf : f_X2_read_l21 I s1 = some r) (hc : ∀ (w0 : Int32) (I9 : rk_I), r = .inl (w0, I9) → AW G l yX2_read cX2_read 2 (some .int) d kc ks 21 [some (.ref 4), some (.int w0)] [] n S I9 J R Q) (he : ∀ (w0 : Int32) (I9 : rk_I), r = .inr (w0, I9) → AW G l yX2_read cX2_read 2 (some .int) d kc ks 62 [some (.ref 4), some (.int w0)] [] n S I9 J R Q) :
    AW G l yX2_read cX2_read 2 (some .int) d kc ks 21 [some (.ref 4), some (.int s1)] [] n S I J R Q := by
  unfold f_X2_read_l21 at hf
  refine AW_iload_n1 dX2_read_21 ?_
  refine AW_iconst (v := 3) dX2_read_22 (by decide) ?_
  refine AW_icmp_ge 62 dX2_read_23 (by decide) (fun h1 => ?_) (fun h1 => ?_)
  · replace hf := rk_it hf h1
    refine AW_sb (rk_sbs (rk_sbs rk_sb0)) ?_
    exact he _ _ (Option.some.inj hf).symm
  · replace hf := rk_if hf h1
    refine AW_aload_n0 dX2_read_26 ?_
    refine AW_bipush (v := 9) dX2_read_27 (by decide) ?_
    refine AW_iload_n1 dX2_read_29 ?_
    refine AW_iadd dX2_read_30 ?_
    replace hf := rk_bd hf
    obtain ⟨I1, e1, hf⟩ := hf
    refine AW_iV1vz (w_X2_take (d := 1) (Nat.le_refl _) hL e1) dX2_read_31 kl_X2_45 (hL.1 4 (by decide)) rfl (Nat.le_trans (by decide) hd) (by decide) (Nat.le_of_ble_eq_true rfl) (fun _ => ?_)
    refine AW_aload_n0 dX2_read_34 ?_
    refine AW_iconst (v := 0) dX2_read_35 (by decide) ?_
    refine AW_iconst (v := 0) dX2_read_36 (by decide) ?_
    replace hf := rk_bd hf
    obtain ⟨I2, e2, hf⟩ := hf
    refine AW_iV2vz (w_X2_phrase_g hL e2) dX2_read_37 kl_X2_49 (hL.1 4 (by decide)) rfl (Nat.le_trans (by decide) hd) (by decide) (Nat.le_of_ble_eq_true rfl) (fun _ => ?_)
    refine AW_aload_n0 dX2_read_40 ?_
    refine AW_bipush (v := 59) dX2_read_41 (by decide) ?_
    replace hf := rk_bd hf
    obtain ⟨I3, e3, hf⟩ := hf
    refine AW_iV1vz (w_X2_take (d := 1) (Nat.le_refl _) hL e3) dX2_read_43 kl_X2_45 (hL.1 4 (by decide)) rfl (Nat.le_trans (by decide) hd) (by decide) (Nat.le_of_ble_eq_true rfl) (fun _ => ?_)
    refine AW_aload_n0 dX2_read_46 ?_
    refine AW_getR dX2_read_47 kf_X2_24 rfl (hL.1 4 (by decide)) (by decide) (hL.2 4 9 9 rfl) ?_
    refine AW_iload_n1 dX2_read_50 ?_
    refine AW_aload_n0 dX2_read_51 ?_
    refine AW_getI dX2_read_52 kf_X2_40 rfl (hL.1 4 (by decide)) (by decide) ?_
    replace hf := rk_bd hf
    obtain ⟨I4, e4, hf⟩ := hf
    refine AW_wr dX2_read_55 (hL.1 9 (by decide)) e4 ?_
    refine AW_iinc_1 (v := 1) dX2_read_56 (by decide) (by decide) rfl ?_
    refine AW_goto 21 dX2_read_59 (by decide) ?_
    refine AW_sb (rk_sbs (rk_sbs rk_sb0)) ?_
    exact hc _ _ (Option.some.inj hf).symm
theorem L_X2_read_w21 {G : rk_G} {l : Launch} {d kc ks : Nat} {n : Nat} {S : rk_Sh} {J : rk_J} {R : rk_R} {Q : rk_Q}  {r : Int32 × rk_I} (hd : 64 ≤ d) (hL : rk_LC S R) (he : ∀ (w0 : Int32) (I9 : rk_I), r = (w0, I9) → AW G l yX2_read cX2_read 2 (some .int) d kc ks 62 [some (.ref 4), some (.int w0)] [] n S I9 J R Q) :
    ∀ (m9 : Nat) (s1 : Int32) (I : rk_I), rk_loop (fun a9 => f_X2_read_l21 a9.2 a9.1) m9 (s1, I) = some r → AW G l yX2_read cX2_read 2 (some .int) d kc ks 21 [some (.ref 4), some (.int s1)] [] n S I J R Q := by
  intro m9
  induction m9 with
  | zero => intro s1 I hf; cases hf
  | succ m9 ih =>
    intro s1 I hf 
    obtain ⟨r9, hf, hr⟩ := rk_loop_s hf
    exact b_X2_read_l21 hd hL hf (fun _ _ h9 => by subst h9; exact ih _ _ hr) (fun _ _ h9 => by subst h9; exact he _ _ hr.symm)
noncomputable def f_X2_read (I : rk_I)  : Option (Int32 × rk_I) :=
(f_X2_split I).bind fun I1 =>
(some (rk_ui I1 4 5 0)).bind fun I2 =>
(some (rk_ui I2 4 6 (-1))).bind fun I3 =>
(some (rk_ui I3 4 8 0)).bind fun I4 =>
rk_b2 (rk_while (fun a9 => f_X2_read_l21 a9.2 a9.1) (0, I4)) fun x1 I5 =>
(f_X2_token I5).bind fun x2 =>
if x2 = 20 then (
some ((I5 4 6), I5)) else (
(f_X2_fail I5).bind fun I6 =>
some ((I6 4 6), I6))
theorem b_X2_read {G : rk_G} {l : Launch} {d kc ks : Nat} {n : Nat} {S : rk_Sh} {I : rk_I} {J : rk_J} {R : rk_R} {Q : rk_Q}  {r : Int32 × rk_I} (hd : 64 ≤ d) (hL : rk_LC S R) (hf : f_X2_read I = some r) (hq : ∀ (v9 : Int32) (I9 : rk_I), r = (v9, I9) → Q (some (.int v9)) n S I9 J R) :
    AW G l yX2_read cX2_read 2 (some .int) d kc ks 0 [some (.ref 4), none] [] n S I J R Q := by
  unfold f_X2_read at hf
  refine AW_aload_n0 dX2_read_0 ?_
  replace hf := rk_bd hf
  obtain ⟨I1, e1, hf⟩ := hf
  refine AW_iV0vz (w_X2_split (d := 7) (Nat.le_refl _) hL e1) dX2_read_1 kl_X2_31 (hL.1 4 (by decide)) rfl (Nat.le_trans (by decide) hd) (by decide) (Nat.le_of_ble_eq_true rfl) (fun _ => ?_)
  refine AW_aload_n0 dX2_read_4 ?_
  refine AW_iconst (v := 0) dX2_read_5 (by decide) ?_
  replace hf := rk_bd hf
  obtain ⟨I2, e2, hf⟩ := hf
  refine AW_puI dX2_read_6 kf_X2_34 rfl (hL.1 4 (by decide)) (by decide) e2 ?_
  refine AW_aload_n0 dX2_read_9 ?_
  refine AW_iconst (v := (-1)) dX2_read_10 (by decide) ?_
  replace hf := rk_bd hf
  obtain ⟨I3, e3, hf⟩ := hf
  refine AW_puI dX2_read_11 kf_X2_37 rfl (hL.1 4 (by decide)) (by decide) e3 ?_
  refine AW_aload_n0 dX2_read_14 ?_
  refine AW_iconst (v := 0) dX2_read_15 (by decide) ?_
  replace hf := rk_bd hf
  obtain ⟨I4, e4, hf⟩ := hf
  refine AW_puI dX2_read_16 kf_X2_40 rfl (hL.1 4 (by decide)) (by decide) e4 ?_
  refine AW_iconst (v := 0) dX2_read_19 (by decide) ?_
  refine AW_istore_n1 dX2_read_20 (by decide) rfl ?_
  refine AW_sb (rk_sbs (rk_sbs rk_sb0)) ?_
  replace hf := rk_bd2 hf
  obtain ⟨x1, I5, e5, hf⟩ := hf
  obtain ⟨m1, e5⟩ := rk_while_sp e5
  refine L_X2_read_w21 (Nat.le_trans (by decide) hd) hL ?_ m1 _ _ e5
  intro x1 I5 h9
  cases h9
  refine AW_aload_n0 dX2_read_62 ?_
  replace hf := rk_bd hf
  obtain ⟨x2, e6, hf⟩ := hf
  refine AW_iV0iz (w_X2_token (d := 0) hL e6) dX2_read_63 kl_X2_53 (hL.1 4 (by decide)) rfl (Nat.le_trans (by decide) hd) (by decide) (Nat.le_of_ble_eq_true rfl) (fun _ => ?_)
  refine AW_bipush (v := 20) dX2_read_66 (by decide) ?_
  refine AW_icmp_eq 75 dX2_read_68 (by decide) (fun h1 => ?_) (fun h1 => ?_)
  · replace hf := rk_it hf h1
    refine AW_aload_n0 dX2_read_75 ?_
    refine AW_getI dX2_read_76 kf_X2_37 rfl (hL.1 4 (by decide)) (by decide) ?_
    exact AW_iret dX2_read_79 rfl (hq _ _ (Option.some.inj hf).symm)
  · replace hf := rk_if hf h1
    refine AW_aload_n0 dX2_read_71 ?_
    replace hf := rk_bd hf
    obtain ⟨I6, e7, hf⟩ := hf
    refine AW_iV0vz (w_X2_fail (d := 0) hL e7) dX2_read_72 kl_X2_57 (hL.1 4 (by decide)) rfl (Nat.le_trans (by decide) hd) (by decide) (Nat.le_of_ble_eq_true rfl) (fun _ => ?_)
    refine AW_aload_n0 dX2_read_75 ?_
    refine AW_getI dX2_read_76 kf_X2_37 rfl (hL.1 4 (by decide)) (by decide) ?_
    exact AW_iret dX2_read_79 rfl (hq _ _ (Option.some.inj hf).symm)
theorem w_X2_read {G : rk_G} {l : Launch} {d : Nat} {n : Nat} {S : rk_Sh} {I : rk_I} {J : rk_J} {R : rk_R}  {v8 : Int32} {I8 : rk_I} (hd : 64 ≤ d) (hL : rk_LC S R) (hf : f_X2_read I = some (v8, I8)) :
    CW G l yX2_read cX2_read 2 (some .int) d 0 0 [.ref 4] n S I J R (rk_qi v8 n S I8 J R True) :=
  CW.of (by decide +kernel) (Nat.le_of_ble_eq_true rfl) (rk_sbs (rk_sbe rk_sb0)) (b_X2_read hd hL hf (fun v9 I9 h9 => by cases h9; exact ⟨rfl, rfl, rfl, rfl, rfl, rfl, trivial⟩))
noncomputable def f_X2_empty (I : rk_I)  : Option (rk_I) :=
(some (rk_ui I 4 1 0)).bind fun I1 =>
some I1
theorem b_X2_empty {G : rk_G} {l : Launch} {d kc ks : Nat} {n : Nat} {S : rk_Sh} {I : rk_I} {J : rk_J} {R : rk_R} {Q : rk_Q}  {r : rk_I} (hL : rk_LC S R) (hf : f_X2_empty I = some r) (hq : ∀ (I9 : rk_I), r = I9 → Q (none) n S I9 J R) :
    AW G l yX2_empty cX2_empty 1 none d kc ks 0 [some (.ref 4)] [] n S I J R Q := by
  unfold f_X2_empty at hf
  refine AW_aload_n0 dX2_empty_0 ?_
  refine AW_iconst (v := 0) dX2_empty_1 (by decide) ?_
  replace hf := rk_bd hf
  obtain ⟨I1, e1, hf⟩ := hf
  refine AW_puI dX2_empty_2 kf_X2_27 rfl (hL.1 4 (by decide)) (by decide) e1 ?_
  exact AW_vret dX2_empty_5 rfl (hq _ (Option.some.inj hf).symm)
theorem w_X2_empty {G : rk_G} {l : Launch} {d : Nat} {n : Nat} {S : rk_Sh} {I : rk_I} {J : rk_J} {R : rk_R}  {I8 : rk_I} (hL : rk_LC S R) (hf : f_X2_empty I = some I8) :
    CW G l yX2_empty cX2_empty 1 none d 0 0 [.ref 4] n S I J R (rk_qv n S I8 J R True) :=
  CW.of (by decide +kernel) (Nat.le_of_ble_eq_true rfl) (rk_sbs rk_sb0) (b_X2_empty hL hf (fun I9 h9 => by cases h9; exact ⟨rfl, rfl, rfl, rfl, rfl, rfl, trivial⟩))
noncomputable def f_J7_copyOf_59c91_8 (n : Nat) (S : rk_Sh) (I : rk_I) (J : rk_J) (R : rk_R) (a1 : Int32) : Option (Nat × Nat × rk_Sh × rk_I × rk_J × rk_R) :=
if a1 = 160 then (
(rk_nck n).bind fun _ =>
(some (rk_sh S n 20 160)).bind fun S2 =>
(some (fun k => if k = n then I 8 else I k)).bind fun I3 =>
(some (rk_zj J n)).bind fun J2 =>
(some (rk_zr R n)).bind fun R2 =>
(rk_ck S2 n 20 160).bind fun _ =>
some (n, (n + 1), S2, I3, J2, R2)) else (
(rk_nwa a1 160).bind fun N1 =>
(rk_nck n).bind fun _ =>
(some (rk_sh S n 20 N1)).bind fun S1 =>
(some (rk_zi I n)).bind fun I1 =>
(some (rk_zj J n)).bind fun J1 =>
(some (rk_zr R n)).bind fun R1 =>
(rk_layC S1 R1).bind fun _ =>
(rk_al S1 n).bind fun N2 =>
(rk_cp I1 8 160 n N2 0 0 (rk_min 160 a1)).bind fun I2 =>
some (n, (n + 1), S1, I2, J1, R1))
theorem b_J7_copyOf_59c91_8 {G : rk_G} {l : Launch} {d : Nat} {n : Nat} {S : rk_Sh} {I : rk_I} {J : rk_J} {R : rk_R} {Q : rk_Q} {a1 : Int32} {r : Nat × Nat × rk_Sh × rk_I × rk_J × rk_R} (hd : 1 ≤ d) (hL : rk_LC S R) (hf : f_J7_copyOf_59c91_8 n S I J R a1 = some r) (hq : ∀ (v9 : Nat) (n9 : Nat) (S9 : rk_Sh) (I9 : rk_I) (J9 : rk_J) (R9 : rk_R), r = (v9, n9, S9, I9, J9, R9) → Q (some (.ref v9)) n9 S9 I9 J9 R9) :
    AW G l yJ7_copyOf_59c91 cJ7_copyOf_59c91 3 (some (.array .int)) d 1 160 0 [some (.ref 8), some (.int a1), none] [] n S I J R Q := by
  unfold f_J7_copyOf_59c91_8 at hf
  refine AW_iload_n1 dJ7_copyOf_59c91_0 ?_
  refine AW_aload_n0 dJ7_copyOf_59c91_1 ?_
  refine AW_alen (v := 160) dJ7_copyOf_59c91_2 (hL.1 8 (by decide)) rfl (by decide) ?_
  refine AW_icmp_ne 14 dJ7_copyOf_59c91_3 (by decide) (fun h1 => ?_) (fun h1 => ?_)
  · replace hf := rk_if hf h1
    refine AW_iload_n1 dJ7_copyOf_59c91_14 ?_
    replace hf := rk_bd hf
    obtain ⟨N1, e1, hf⟩ := hf
    have e1 := rk_nwa_sp e1
    replace hf := rk_bd hf
    obtain ⟨_, e2, hf⟩ := hf
    have e2 := rk_nck_sp e2
    replace hf := rk_bd hf
    obtain ⟨S1, e3, hf⟩ := hf
    replace hf := rk_bd hf
    obtain ⟨I1, e4, hf⟩ := hf
    replace hf := rk_bd hf
    obtain ⟨J1, e5, hf⟩ := hf
    replace hf := rk_bd hf
    obtain ⟨R1, e6, hf⟩ := hf
    refine AW_nwB dJ7_copyOf_59c91_15 kA_int e1.1 e1.2.1 e1.2.2 (by decide) e2 e3 e4 e5 e6 ?_
    refine AW_astore_n2 dJ7_copyOf_59c91_17 (by decide) rfl ?_
    refine AW_aload_n0 dJ7_copyOf_59c91_18 ?_
    refine AW_iconst (v := 0) dJ7_copyOf_59c91_19 (by decide) ?_
    refine AW_aload_n2 dJ7_copyOf_59c91_20 ?_
    refine AW_iconst (v := 0) dJ7_copyOf_59c91_21 (by decide) ?_
    refine AW_aload_n0 dJ7_copyOf_59c91_22 ?_
    replace hf := rk_bd hf
    obtain ⟨_, e7, hf⟩ := hf
    have e7 := rk_layC_sp e7
    refine AW_alen (v := 160) dJ7_copyOf_59c91_23 (e7.1 8 (by decide)) rfl (by decide) ?_
    refine AW_iload_n1 dJ7_copyOf_59c91_24 ?_
    refine AW_mmin dJ7_copyOf_59c91_25 km_J7_304 (Nat.le_trans (by decide) hd) (Nat.le_of_ble_eq_true rfl) ?_
    replace hf := rk_bd hf
    obtain ⟨N2, e8, hf⟩ := hf
    have e8 := rk_al_sp e8
    replace hf := rk_bd hf
    obtain ⟨I2, e9, hf⟩ := hf
    refine AW_copy dJ7_copyOf_59c91_28 kp_J7_150 (e7.1 8 (by decide)) e8 e9 (Nat.le_trans (by decide) hd) (Nat.le_of_ble_eq_true rfl) ?_
    refine AW_aload_n2 dJ7_copyOf_59c91_31 ?_
    exact AW_aretA dJ7_copyOf_59c91_32 rfl (hq _ _ _ _ _ _ (Option.some.inj hf).symm)
  · replace hf := rk_it hf h1
    refine AW_aload_n0 dJ7_copyOf_59c91_6 ?_
    replace hf := rk_bd hf
    obtain ⟨_, e10, hf⟩ := hf
    have e10 := rk_nck_sp e10
    replace hf := rk_bd hf
    obtain ⟨S2, e11, hf⟩ := hf
    replace hf := rk_bd hf
    obtain ⟨I3, e12, hf⟩ := hf
    replace hf := rk_bd hf
    obtain ⟨J2, e13, hf⟩ := hf
    replace hf := rk_bd hf
    obtain ⟨R2, e14, hf⟩ := hf
    refine AW_cln dJ7_copyOf_59c91_7 kh_J7_316 (hL.1 8 (by decide)) (Nat.le_trans (by decide) hd) (Nat.le_of_ble_eq_true rfl) e10 e11 e12 e13 e14 ?_
    replace hf := rk_bd hf
    obtain ⟨_, e15, hf⟩ := hf
    have e15 := rk_ck_sp e15
    refine AW_castI dJ7_copyOf_59c91_10 kx_J7_317 e15 ?_
    exact AW_aretA dJ7_copyOf_59c91_13 rfl (hq _ _ _ _ _ _ (Option.some.inj hf).symm)
theorem w_J7_copyOf_59c91_8 {G : rk_G} {l : Launch} {d : Nat} {n : Nat} {S : rk_Sh} {I : rk_I} {J : rk_J} {R : rk_R} {a1 : Int32} {v8 : Nat} {n8 : Nat} {S8 : rk_Sh} {I8 : rk_I} {J8 : rk_J} {R8 : rk_R} (hd : 1 ≤ d) (hL : rk_LC S R) (hf : f_J7_copyOf_59c91_8 n S I J R a1 = some (v8, n8, S8, I8, J8, R8)) :
    CW G l yJ7_copyOf_59c91 cJ7_copyOf_59c91 3 (some (.array .int)) d 1 160 [.ref 8, .int a1] n S I J R (rk_qr v8 n8 S8 I8 J8 R8 True) :=
  CW.of (by decide +kernel) (Nat.le_of_ble_eq_true rfl) (rk_sbs (rk_sbs (rk_sbe rk_sb0))) (b_J7_copyOf_59c91_8 hd hL hf (fun v9 n9 S9 I9 J9 R9 h9 => by cases h9; exact ⟨rfl, rfl, rfl, rfl, rfl, rfl, trivial⟩))
noncomputable def f_J7_copyOf_59c91_9 (n : Nat) (S : rk_Sh) (I : rk_I) (J : rk_J) (R : rk_R) (a1 : Int32) : Option (Nat × Nat × rk_Sh × rk_I × rk_J × rk_R) :=
if a1 = 3 then (
(rk_nck n).bind fun _ =>
(some (rk_sh S n 20 3)).bind fun S2 =>
(some (fun k => if k = n then I 9 else I k)).bind fun I3 =>
(some (rk_zj J n)).bind fun J2 =>
(some (rk_zr R n)).bind fun R2 =>
(rk_ck S2 n 20 3).bind fun _ =>
some (n, (n + 1), S2, I3, J2, R2)) else (
(rk_nwa a1 160).bind fun N1 =>
(rk_nck n).bind fun _ =>
(some (rk_sh S n 20 N1)).bind fun S1 =>
(some (rk_zi I n)).bind fun I1 =>
(some (rk_zj J n)).bind fun J1 =>
(some (rk_zr R n)).bind fun R1 =>
(rk_layC S1 R1).bind fun _ =>
(rk_al S1 n).bind fun N2 =>
(rk_cp I1 9 3 n N2 0 0 (rk_min 3 a1)).bind fun I2 =>
some (n, (n + 1), S1, I2, J1, R1))
theorem b_J7_copyOf_59c91_9 {G : rk_G} {l : Launch} {d : Nat} {n : Nat} {S : rk_Sh} {I : rk_I} {J : rk_J} {R : rk_R} {Q : rk_Q} {a1 : Int32} {r : Nat × Nat × rk_Sh × rk_I × rk_J × rk_R} (hd : 1 ≤ d) (hL : rk_LC S R) (hf : f_J7_copyOf_59c91_9 n S I J R a1 = some r) (hq : ∀ (v9 : Nat) (n9 : Nat) (S9 : rk_Sh) (I9 : rk_I) (J9 : rk_J) (R9 : rk_R), r = (v9, n9, S9, I9, J9, R9) → Q (some (.ref v9)) n9 S9 I9 J9 R9) :
    AW G l yJ7_copyOf_59c91 cJ7_copyOf_59c91 3 (some (.array .int)) d 1 160 0 [some (.ref 9), some (.int a1), none] [] n S I J R Q := by
  unfold f_J7_copyOf_59c91_9 at hf
  refine AW_iload_n1 dJ7_copyOf_59c91_0 ?_
  refine AW_aload_n0 dJ7_copyOf_59c91_1 ?_
  refine AW_alen (v := 3) dJ7_copyOf_59c91_2 (hL.1 9 (by decide)) rfl (by decide) ?_
  refine AW_icmp_ne 14 dJ7_copyOf_59c91_3 (by decide) (fun h1 => ?_) (fun h1 => ?_)
  · replace hf := rk_if hf h1
    refine AW_iload_n1 dJ7_copyOf_59c91_14 ?_
    replace hf := rk_bd hf
    obtain ⟨N1, e1, hf⟩ := hf
    have e1 := rk_nwa_sp e1
    replace hf := rk_bd hf
    obtain ⟨_, e2, hf⟩ := hf
    have e2 := rk_nck_sp e2
    replace hf := rk_bd hf
    obtain ⟨S1, e3, hf⟩ := hf
    replace hf := rk_bd hf
    obtain ⟨I1, e4, hf⟩ := hf
    replace hf := rk_bd hf
    obtain ⟨J1, e5, hf⟩ := hf
    replace hf := rk_bd hf
    obtain ⟨R1, e6, hf⟩ := hf
    refine AW_nwB dJ7_copyOf_59c91_15 kA_int e1.1 e1.2.1 e1.2.2 (by decide) e2 e3 e4 e5 e6 ?_
    refine AW_astore_n2 dJ7_copyOf_59c91_17 (by decide) rfl ?_
    refine AW_aload_n0 dJ7_copyOf_59c91_18 ?_
    refine AW_iconst (v := 0) dJ7_copyOf_59c91_19 (by decide) ?_
    refine AW_aload_n2 dJ7_copyOf_59c91_20 ?_
    refine AW_iconst (v := 0) dJ7_copyOf_59c91_21 (by decide) ?_
    refine AW_aload_n0 dJ7_copyOf_59c91_22 ?_
    replace hf := rk_bd hf
    obtain ⟨_, e7, hf⟩ := hf
    have e7 := rk_layC_sp e7
    refine AW_alen (v := 3) dJ7_copyOf_59c91_23 (e7.1 9 (by decide)) rfl (by decide) ?_
    refine AW_iload_n1 dJ7_copyOf_59c91_24 ?_
    refine AW_mmin dJ7_copyOf_59c91_25 km_J7_304 (Nat.le_trans (by decide) hd) (Nat.le_of_ble_eq_true rfl) ?_
    replace hf := rk_bd hf
    obtain ⟨N2, e8, hf⟩ := hf
    have e8 := rk_al_sp e8
    replace hf := rk_bd hf
    obtain ⟨I2, e9, hf⟩ := hf
    refine AW_copy dJ7_copyOf_59c91_28 kp_J7_150 (e7.1 9 (by decide)) e8 e9 (Nat.le_trans (by decide) hd) (Nat.le_of_ble_eq_true rfl) ?_
    refine AW_aload_n2 dJ7_copyOf_59c91_31 ?_
    exact AW_aretA dJ7_copyOf_59c91_32 rfl (hq _ _ _ _ _ _ (Option.some.inj hf).symm)
  · replace hf := rk_it hf h1
    refine AW_aload_n0 dJ7_copyOf_59c91_6 ?_
    replace hf := rk_bd hf
    obtain ⟨_, e10, hf⟩ := hf
    have e10 := rk_nck_sp e10
    replace hf := rk_bd hf
    obtain ⟨S2, e11, hf⟩ := hf
    replace hf := rk_bd hf
    obtain ⟨I3, e12, hf⟩ := hf
    replace hf := rk_bd hf
    obtain ⟨J2, e13, hf⟩ := hf
    replace hf := rk_bd hf
    obtain ⟨R2, e14, hf⟩ := hf
    refine AW_cln dJ7_copyOf_59c91_7 kh_J7_316 (hL.1 9 (by decide)) (Nat.le_trans (by decide) hd) (Nat.le_of_ble_eq_true rfl) e10 e11 e12 e13 e14 ?_
    replace hf := rk_bd hf
    obtain ⟨_, e15, hf⟩ := hf
    have e15 := rk_ck_sp e15
    refine AW_castI dJ7_copyOf_59c91_10 kx_J7_317 e15 ?_
    exact AW_aretA dJ7_copyOf_59c91_13 rfl (hq _ _ _ _ _ _ (Option.some.inj hf).symm)
theorem w_J7_copyOf_59c91_9 {G : rk_G} {l : Launch} {d : Nat} {n : Nat} {S : rk_Sh} {I : rk_I} {J : rk_J} {R : rk_R} {a1 : Int32} {v8 : Nat} {n8 : Nat} {S8 : rk_Sh} {I8 : rk_I} {J8 : rk_J} {R8 : rk_R} (hd : 1 ≤ d) (hL : rk_LC S R) (hf : f_J7_copyOf_59c91_9 n S I J R a1 = some (v8, n8, S8, I8, J8, R8)) :
    CW G l yJ7_copyOf_59c91 cJ7_copyOf_59c91 3 (some (.array .int)) d 1 160 [.ref 9, .int a1] n S I J R (rk_qr v8 n8 S8 I8 J8 R8 True) :=
  CW.of (by decide +kernel) (Nat.le_of_ble_eq_true rfl) (rk_sbs (rk_sbs (rk_sbe rk_sb0))) (b_J7_copyOf_59c91_9 hd hL hf (fun v9 n9 S9 I9 J9 R9 h9 => by cases h9; exact ⟨rfl, rfl, rfl, rfl, rfl, rfl, trivial⟩))
noncomputable def f_X7_init (R : rk_R) (a0 : Nat) (a1 : Nat) (a2 : Nat) : Option (rk_R) :=
(some (rk_ur R a0 0 (some a1))).bind fun R1 =>
(some (rk_ur R1 a0 1 (some a2))).bind fun R2 =>
some R2
theorem b_X7_init {G : rk_G} {l : Launch} {d kc ks : Nat} {n : Nat} {S : rk_Sh} {I : rk_I} {J : rk_J} {R : rk_R} {Q : rk_Q} {a0 : Nat} {a1 : Nat} {a2 : Nat} {r : rk_R} (hd : 1 ≤ d) (hS_a0 : S a0 = (7, 2)) (hf : f_X7_init R a0 a1 a2 = some r) (hq : ∀ (R9 : rk_R), r = R9 → Q (none) n S I J R9) :
    AW G l yX7_init cX7_init 3 none d kc ks 0 [some (.ref a0), some (.ref a1), some (.ref a2)] [] n S I J R Q := by
  unfold f_X7_init at hf
  refine AW_aload_n0 dX7_init_0 ?_
  refine AW_objInit dX7_init_1 ko_X7_3 (Nat.le_trans (by decide) hd) (Nat.le_of_ble_eq_true rfl) ?_
  refine AW_aload_n0 dX7_init_4 ?_
  refine AW_aload_n1 dX7_init_5 ?_
  replace hf := rk_bd hf
  obtain ⟨R1, e1, hf⟩ := hf
  refine AW_puAF dX7_init_6 kf_X7_9 rfl hS_a0 (by decide) rfl rfl e1 ?_
  refine AW_aload_n0 dX7_init_9 ?_
  refine AW_aload_n2 dX7_init_10 ?_
  replace hf := rk_bd hf
  obtain ⟨R2, e2, hf⟩ := hf
  refine AW_puAF dX7_init_11 kf_X7_15 rfl hS_a0 (by decide) rfl rfl e2 ?_
  exact AW_vret dX7_init_14 rfl (hq _ (Option.some.inj hf).symm)
theorem w_X7_init {G : rk_G} {l : Launch} {d : Nat} {n : Nat} {S : rk_Sh} {I : rk_I} {J : rk_J} {R : rk_R} {a0 : Nat} {a1 : Nat} {a2 : Nat} {R8 : rk_R} (hd : 1 ≤ d) (hS_a0 : S a0 = (7, 2)) (hf : f_X7_init R a0 a1 a2 = some R8) :
    CW G l yX7_init cX7_init 3 none d 0 0 [.ref a0, .ref a1, .ref a2] n S I J R (rk_qv n S I J R8 True) :=
  CW.of (by decide +kernel) (Nat.le_of_ble_eq_true rfl) (rk_sbs (rk_sbs (rk_sbs rk_sb0))) (b_X7_init hd hS_a0 hf (fun R9 h9 => by cases h9; exact ⟨rfl, rfl, rfl, rfl, rfl, rfl, trivial⟩))
noncomputable def f_X2_asText (n : Nat) (S : rk_Sh) (I : rk_I) (J : rk_J) (R : rk_R)  : Option (Nat × Nat × rk_Sh × rk_I × rk_J × rk_R) :=
(rk_nck n).bind fun _ =>
(some (rk_sh S n 7 2)).bind fun S1 =>
(some (rk_zi I n)).bind fun I1 =>
(some (rk_zj J n)).bind fun J1 =>
(some (rk_zr R n)).bind fun R1 =>
(rk_layC S1 R1).bind fun _ =>
rk_b6 (f_J7_copyOf_59c91_8 (n + 1) S1 I1 J1 R1 (I1 4 8)) fun o1 n1 S2 I2 J2 R2 =>
(rk_layC S2 R2).bind fun _ =>
rk_b6 (f_J7_copyOf_59c91_9 n1 S2 I2 J2 R2 3) fun o2 n2 S3 I3 J3 R3 =>
(f_X7_init R3 n o1 o2).bind fun R4 =>
(rk_ck S3 n 7 2).bind fun _ =>
some (n, n2, S3, I3, J3, R4)
theorem b_X2_asText {G : rk_G} {l : Launch} {d : Nat} {n : Nat} {S : rk_Sh} {I : rk_I} {J : rk_J} {R : rk_R} {Q : rk_Q}  {r : Nat × Nat × rk_Sh × rk_I × rk_J × rk_R} (hd : 2 ≤ d) (hL : rk_LC S R) (hf : f_X2_asText n S I J R = some r) (hq : ∀ (v9 : Nat) (n9 : Nat) (S9 : rk_Sh) (I9 : rk_I) (J9 : rk_J) (R9 : rk_R), r = (v9, n9, S9, I9, J9, R9) → Q (some (.ref v9)) n9 S9 I9 J9 R9) :
    AW G l yX2_asText cX2_asText 1 (some (.object "RailCargo$Text")) d 3 322 0 [some (.ref 4)] [] n S I J R Q := by
  unfold f_X2_asText at hf
  replace hf := rk_bd hf
  obtain ⟨_, e1, hf⟩ := hf
  have e1 := rk_nck_sp e1
  replace hf := rk_bd hf
  obtain ⟨S1, e2, hf⟩ := hf
  replace hf := rk_bd hf
  obtain ⟨I1, e3, hf⟩ := hf
  replace hf := rk_bd hf
  obtain ⟨J1, e4, hf⟩ := hf
  replace hf := rk_bd hf
  obtain ⟨R1, e5, hf⟩ := hf
  refine AW_nwO dX2_asText_0 kc_X2_60 e1 e2 e3 e4 e5 ?_
  refine AW_dup dX2_asText_3 rfl ?_
  refine AW_aload_n0 dX2_asText_4 ?_
  replace hf := rk_bd hf
  obtain ⟨_, e6, hf⟩ := hf
  have e6 := rk_layC_sp e6
  refine AW_getR dX2_asText_5 kf_X2_21 rfl (e6.1 4 (by decide)) (by decide) (e6.2 4 7 8 rfl) ?_
  refine AW_aload_n0 dX2_asText_8 ?_
  refine AW_getI dX2_asText_9 kf_X2_40 rfl (e6.1 4 (by decide)) (by decide) ?_
  replace hf := rk_bd6 hf
  obtain ⟨o1, n1, S2, I2, J2, R2, e7, hf⟩ := hf
  refine AW_iS2r (w_J7_copyOf_59c91_8 (d := 1) (Nat.le_refl _) e6 e7) dX2_asText_12 kl_X2_62 (Nat.le_trans (by decide) hd) (by decide) (Nat.le_of_ble_eq_true rfl) (fun _ => ?_)
  refine AW_aload_n0 dX2_asText_15 ?_
  replace hf := rk_bd hf
  obtain ⟨_, e8, hf⟩ := hf
  have e8 := rk_layC_sp e8
  refine AW_getR dX2_asText_16 kf_X2_24 rfl (e8.1 4 (by decide)) (by decide) (e8.2 4 9 9 rfl) ?_
  refine AW_iconst (v := 3) dX2_asText_19 (by decide) ?_
  replace hf := rk_bd6 hf
  obtain ⟨o2, n2, S3, I3, J3, R3, e9, hf⟩ := hf
  refine AW_iS2r (w_J7_copyOf_59c91_9 (d := 1) (Nat.le_refl _) e8 e9) dX2_asText_20 kl_X2_62 (Nat.le_trans (by decide) hd) (by decide) (Nat.le_of_ble_eq_true rfl) (fun _ => ?_)
  replace hf := rk_bd hf
  obtain ⟨R4, e10, hf⟩ := hf
  replace hf := rk_bd hf
  obtain ⟨_, e11, hf⟩ := hf
  have e11 := rk_ck_sp e11
  refine AW_iI2vz (w_X7_init (d := 1) (Nat.le_refl _) e11 e10) dX2_asText_23 kl_X2_68 (Nat.le_trans (by decide) hd) (by decide) (Nat.le_of_ble_eq_true rfl) (fun _ => ?_)
  exact AW_aret dX2_asText_26 rfl (hq _ _ _ _ _ _ (Option.some.inj hf).symm)
theorem w_X2_asText {G : rk_G} {l : Launch} {d : Nat} {n : Nat} {S : rk_Sh} {I : rk_I} {J : rk_J} {R : rk_R}  {v8 : Nat} {n8 : Nat} {S8 : rk_Sh} {I8 : rk_I} {J8 : rk_J} {R8 : rk_R} (hd : 2 ≤ d) (hL : rk_LC S R) (hf : f_X2_asText n S I J R = some (v8, n8, S8, I8, J8, R8)) :
    CW G l yX2_asText cX2_asText 1 (some (.object "RailCargo$Text")) d 3 322 [.ref 4] n S I J R (rk_qr v8 n8 S8 I8 J8 R8 True) :=
  CW.of (by decide +kernel) (Nat.le_of_ble_eq_true rfl) (rk_sbs rk_sb0) (b_X2_asText hd hL hf (fun v9 n9 S9 I9 J9 R9 h9 => by cases h9; exact ⟨rfl, rfl, rfl, rfl, rfl, rfl, trivial⟩))
noncomputable def f_X9_text (n : Nat) (S : rk_Sh) (I : rk_I) (J : rk_J) (R : rk_R)  : Option (Int32 × Nat × rk_Sh × rk_I × rk_J × rk_R) :=
if (I 0 5) < 6 then (
rk_b2 (f_X2_read I) fun x1 I1 =>
if x1 = (-1) then (
rk_b6 (f_X2_asText n S I1 J R) fun o1 n1 S1 I3 J1 R1 =>
(rk_layC S1 R1).bind fun _ =>
(rk_ck S1 o1 7 2).bind fun _ =>
(rk_wrR R1 3 6 (I1 0 5) o1).bind fun R2 =>
(some (rk_ui I3 0 5 ((I3 0 5) + 1))).bind fun I4 =>
(f_X2_empty I4).bind fun I5 =>
if x1 = (-1) then (
some (((I5 0 5) - 1), n1, S1, I5, J1, R2)) else (
some (((-100) - x1), n1, S1, I5, J1, R2))) else (
(f_X2_empty I1).bind fun I2 =>
if x1 = (-1) then (
some (((I2 0 5) - 1), n, S, I2, J, R)) else (
some (((-100) - x1), n, S, I2, J, R)))) else (
some ((-4), n, S, I, J, R))
theorem b_X9_text {G : rk_G} {l : Launch} {d : Nat} {n : Nat} {S : rk_Sh} {I : rk_I} {J : rk_J} {R : rk_R} {Q : rk_Q}  {r : Int32 × Nat × rk_Sh × rk_I × rk_J × rk_R} (hd : 65 ≤ d) (hL : rk_LC S R) (hf : f_X9_text n S I J R = some r) (hq : ∀ (v9 : Int32) (n9 : Nat) (S9 : rk_Sh) (I9 : rk_I) (J9 : rk_J) (R9 : rk_R), r = (v9, n9, S9, I9, J9, R9) → rk_LC S9 R9 → Q (some (.int v9)) n9 S9 I9 J9 R9) :
    AW G l yX9_text cX9_text 2 (some .int) d 3 322 0 [some (.ref 0), none] [] n S I J R Q := by
  unfold f_X9_text at hf
  refine AW_aload_n0 dX9_text_0 ?_
  refine AW_getI dX9_text_1 kf_X9_89 rfl (hL.1 0 (by decide)) (by decide) ?_
  refine AW_bipush (v := 6) dX9_text_4 (by decide) ?_
  refine AW_icmp_lt 12 dX9_text_6 (by decide) (fun h1 => ?_) (fun h1 => ?_)
  · replace hf := rk_it hf h1
    refine AW_aload_n0 dX9_text_12 ?_
    refine AW_getR dX9_text_13 kf_X9_30 rfl (hL.1 0 (by decide)) (by decide) (hL.2 0 7 4 rfl) ?_
    replace hf := rk_bd2 hf
    obtain ⟨x1, I1, e1, hf⟩ := hf
    refine AW_iV0iz (w_X2_read (d := 64) (Nat.le_refl _) hL e1) dX9_text_16 kl_X9_82 (hL.1 4 (by decide)) rfl (Nat.le_trans (by decide) hd) (by decide) (Nat.le_of_ble_eq_true rfl) (fun _ => ?_)
    refine AW_istore_n1 dX9_text_19 (by decide) rfl ?_
    refine AW_iload_n1 dX9_text_20 ?_
    refine AW_iconst (v := (-1)) dX9_text_21 (by decide) ?_
    refine AW_icmp_ne 51 dX9_text_22 (by decide) (fun h2 => ?_) (fun h2 => ?_)
    · replace hf := rk_if hf h2
      refine AW_aload_n0 dX9_text_51 ?_
      refine AW_getR dX9_text_52 kf_X9_30 rfl (hL.1 0 (by decide)) (by decide) (hL.2 0 7 4 rfl) ?_
      replace hf := rk_bd hf
      obtain ⟨I2, e2, hf⟩ := hf
      refine AW_iV0vz (w_X2_empty (d := 0) hL e2) dX9_text_55 kl_X9_93 (hL.1 4 (by decide)) rfl (Nat.le_trans (by decide) hd) (by decide) (Nat.le_of_ble_eq_true rfl) (fun _ => ?_)
      refine AW_iload_n1 dX9_text_58 ?_
      refine AW_iconst (v := (-1)) dX9_text_59 (by decide) ?_
      refine AW_icmp_ne 72 dX9_text_60 (by decide) (fun h3 => ?_) (fun h3 => ?_)
      · replace hf := rk_if hf h3
        refine AW_bipush (v := (-100)) dX9_text_72 (by decide) ?_
        refine AW_iload_n1 dX9_text_74 ?_
        refine AW_isub dX9_text_75 ?_
        exact AW_iret dX9_text_76 rfl (hq _ _ _ _ _ _ (Option.some.inj hf).symm hL)
      · replace hf := rk_it hf h3
        refine AW_aload_n0 dX9_text_63 ?_
        refine AW_getI dX9_text_64 kf_X9_89 rfl (hL.1 0 (by decide)) (by decide) ?_
        refine AW_iconst (v := 1) dX9_text_67 (by decide) ?_
        refine AW_isub dX9_text_68 ?_
        refine AW_goto 76 dX9_text_69 (by decide) ?_
        exact AW_iret dX9_text_76 rfl (hq _ _ _ _ _ _ (Option.some.inj hf).symm hL)
    · replace hf := rk_it hf h2
      refine AW_aload_n0 dX9_text_25 ?_
      refine AW_getR dX9_text_26 kf_X9_23 rfl (hL.1 0 (by decide)) (by decide) (hL.2 0 4 3 rfl) ?_
      refine AW_aload_n0 dX9_text_29 ?_
      refine AW_getI dX9_text_30 kf_X9_89 rfl (hL.1 0 (by decide)) (by decide) ?_
      refine AW_aload_n0 dX9_text_33 ?_
      refine AW_getR dX9_text_34 kf_X9_30 rfl (hL.1 0 (by decide)) (by decide) (hL.2 0 7 4 rfl) ?_
      replace hf := rk_bd6 hf
      obtain ⟨o1, n1, S1, I3, J1, R1, e3, hf⟩ := hf
      refine AW_iV0r (w_X2_asText (d := 2) (Nat.le_refl _) hL e3) dX9_text_37 kl_X9_85 (hL.1 4 (by decide)) rfl (Nat.le_trans (by decide) hd) (by decide) (Nat.le_of_ble_eq_true rfl) (fun _ => ?_)
      replace hf := rk_bd hf
      obtain ⟨_, e4, hf⟩ := hf
      have e4 := rk_layC_sp e4
      replace hf := rk_bd hf
      obtain ⟨_, e5, hf⟩ := hf
      have e5 := rk_ck_sp e5
      replace hf := rk_bd hf
      obtain ⟨R2, e6, hf⟩ := hf
      refine AW_wrR dX9_text_40 (e4.1 3 (by decide)) (Or.inr (Or.inr (Or.inl rfl))) e5 e6 ?_
      have hL1 := rk_LC_wr e4 e6 (fun _ => rfl)
      refine AW_aload_n0 dX9_text_41 ?_
      refine AW_dup dX9_text_42 rfl ?_
      refine AW_getI dX9_text_43 kf_X9_89 rfl (hL1.1 0 (by decide)) (by decide) ?_
      refine AW_iconst (v := 1) dX9_text_46 (by decide) ?_
      refine AW_iadd dX9_text_47 ?_
      replace hf := rk_bd hf
      obtain ⟨I4, e7, hf⟩ := hf
      refine AW_puI dX9_text_48 kf_X9_89 rfl (hL1.1 0 (by decide)) (by decide) e7 ?_
      refine AW_aload_n0 dX9_text_51 ?_
      refine AW_getR dX9_text_52 kf_X9_30 rfl (hL1.1 0 (by decide)) (by decide) (hL1.2 0 7 4 rfl) ?_
      replace hf := rk_bd hf
      obtain ⟨I5, e8, hf⟩ := hf
      refine AW_iV0vz (w_X2_empty (d := 0) hL1 e8) dX9_text_55 kl_X9_93 (hL1.1 4 (by decide)) rfl (Nat.le_trans (by decide) hd) (by decide) (Nat.le_of_ble_eq_true rfl) (fun _ => ?_)
      refine AW_iload_n1 dX9_text_58 ?_
      refine AW_iconst (v := (-1)) dX9_text_59 (by decide) ?_
      refine AW_icmp_ne 72 dX9_text_60 (by decide) (fun h4 => ?_) (fun h4 => ?_)
      · replace hf := rk_if hf h4
        refine AW_bipush (v := (-100)) dX9_text_72 (by decide) ?_
        refine AW_iload_n1 dX9_text_74 ?_
        refine AW_isub dX9_text_75 ?_
        exact AW_iret dX9_text_76 rfl (hq _ _ _ _ _ _ (Option.some.inj hf).symm hL1)
      · replace hf := rk_it hf h4
        refine AW_aload_n0 dX9_text_63 ?_
        refine AW_getI dX9_text_64 kf_X9_89 rfl (hL1.1 0 (by decide)) (by decide) ?_
        refine AW_iconst (v := 1) dX9_text_67 (by decide) ?_
        refine AW_isub dX9_text_68 ?_
        refine AW_goto 76 dX9_text_69 (by decide) ?_
        exact AW_iret dX9_text_76 rfl (hq _ _ _ _ _ _ (Option.some.inj hf).symm hL1)
  · replace hf := rk_if hf h1
    refine AW_bipush (v := (-4)) dX9_text_9 (by decide) ?_
    exact AW_iret dX9_text_11 rfl (hq _ _ _ _ _ _ (Option.some.inj hf).symm hL)
theorem w_X9_text {G : rk_G} {l : Launch} {d : Nat} {n : Nat} {S : rk_Sh} {I : rk_I} {J : rk_J} {R : rk_R}  {v8 : Int32} {n8 : Nat} {S8 : rk_Sh} {I8 : rk_I} {J8 : rk_J} {R8 : rk_R} (hd : 65 ≤ d) (hL : rk_LC S R) (hf : f_X9_text n S I J R = some (v8, n8, S8, I8, J8, R8)) :
    CW G l yX9_text cX9_text 2 (some .int) d 3 322 [.ref 0] n S I J R (rk_qi v8 n8 S8 I8 J8 R8 (rk_LC S8 R8)) :=
  CW.of (by decide +kernel) (Nat.le_of_ble_eq_true rfl) (rk_sbs (rk_sbe rk_sb0)) (b_X9_text hd hL hf (fun v9 n9 S9 I9 J9 R9 h9 hl9 => by cases h9; exact ⟨rfl, rfl, rfl, rfl, rfl, rfl, hl9⟩))
noncomputable def f_X10_byteAt (I : rk_I) (a1 : Int32) : Option (Int32) :=
if (I 31 24) ≤ a1 then (
some (-1)) else (
(rk_rd I 32 960 ((I 31 23) + a1)).bind fun x1 =>
some x1)
theorem b_X10_byteAt {G : rk_G} {l : Launch} {d kc ks : Nat} {n : Nat} {S : rk_Sh} {I : rk_I} {J : rk_J} {R : rk_R} {Q : rk_Q} {a1 : Int32} {r : Int32} (hM : rk_LM S R) (hf : f_X10_byteAt I a1 = some r) (hq : ∀ (v9 : Int32), r = v9 → Q (some (.int v9)) n S I J R) :
    AW G l yX10_byteAt cX10_byteAt 2 (some .int) d kc ks 0 [some (.ref 31), some (.int a1)] [] n S I J R Q := by
  unfold f_X10_byteAt at hf
  refine AW_iload_n1 dX10_byteAt_0 ?_
  refine AW_aload_n0 dX10_byteAt_1 ?_
  refine AW_getI dX10_byteAt_2 kf_X10_179 rfl (hM.1 31 (by decide) (by decide)) (by decide) ?_
  refine AW_icmp_ge 22 dX10_byteAt_5 (by decide) (fun h1 => ?_) (fun h1 => ?_)
  · replace hf := rk_it hf h1
    refine AW_iconst (v := (-1)) dX10_byteAt_22 (by decide) ?_
    exact AW_iret dX10_byteAt_23 rfl (hq _ (Option.some.inj hf).symm)
  · replace hf := rk_if hf h1
    refine AW_aload_n0 dX10_byteAt_8 ?_
    refine AW_getR dX10_byteAt_9 kf_X10_13 rfl (hM.1 31 (by decide) (by decide)) (by decide) (hM.2 31 1 32 rfl) ?_
    refine AW_aload_n0 dX10_byteAt_12 ?_
    refine AW_getI dX10_byteAt_13 kf_X10_182 rfl (hM.1 31 (by decide) (by decide)) (by decide) ?_
    refine AW_iload_n1 dX10_byteAt_16 ?_
    refine AW_iadd dX10_byteAt_17 ?_
    replace hf := rk_bd hf
    obtain ⟨x1, e1, hf⟩ := hf
    refine AW_rd dX10_byteAt_18 (hM.1 32 (by decide) (by decide)) e1 ?_
    refine AW_goto 23 dX10_byteAt_19 (by decide) ?_
    exact AW_iret dX10_byteAt_23 rfl (hq _ (Option.some.inj hf).symm)
theorem w_X10_byteAt {G : rk_G} {l : Launch} {d : Nat} {n : Nat} {S : rk_Sh} {I : rk_I} {J : rk_J} {R : rk_R} {a1 : Int32} {v8 : Int32} (hM : rk_LM S R) (hf : f_X10_byteAt I a1 = some v8) :
    CW G l yX10_byteAt cX10_byteAt 2 (some .int) d 0 0 [.ref 31, .int a1] n S I J R (rk_qi v8 n S I J R True) :=
  CW.of (by decide +kernel) (Nat.le_of_ble_eq_true rfl) (rk_sbs (rk_sbs rk_sb0)) (b_X10_byteAt hM hf (fun v9 h9 => by cases h9; exact ⟨rfl, rfl, rfl, rfl, rfl, rfl, trivial⟩))
noncomputable def f_X10_next_l0 (I : rk_I) (J : rk_J)  : Option ((rk_I) ⊕ (rk_I)) :=
(f_X10_byteAt I (I 31 28)).bind fun x1 =>
if x1 = 32 then (
(some (rk_ui I 31 28 ((I 31 28) + 1))).bind fun I1 =>
some (.inl I1)) else (
(f_X10_byteAt I (I 31 28)).bind fun x2 =>
if x2 = 10 then (
(some (rk_ui I 31 28 ((I 31 28) + 1))).bind fun I2 =>
some (.inl I2)) else (
some (.inr I)))
theorem b_X10_next_l0 {G : rk_G} {l : Launch} {d kc ks : Nat} {n : Nat} {S : rk_Sh} {I : rk_I} {J : rk_J} {R : rk_R} {Q : rk_Q}  {r : (rk_I) ⊕ (rk_I)} (hd : 1 ≤ d) (hM : rk_LM S R) (hf : f_X10_next_l0 I J = some r) (hc : ∀ (I9 : rk_I), r = .inl I9 → AW G l yX10_next cX10_next 3 none d kc ks 0 [some (.ref 31), none, none] [] n S I9 J R Q) (he : ∀ (I9 : rk_I), r = .inr I9 → AW G l yX10_next cX10_next 3 none d kc ks 39 [some (.ref 31), none, none] [] n S I9 J R Q) :
    AW G l yX10_next cX10_next 3 none d kc ks 0 [some (.ref 31), none, none] [] n S I J R Q := by
  unfold f_X10_next_l0 at hf
  refine AW_aload_n0 dX10_next_0 ?_
  refine AW_aload_n0 dX10_next_1 ?_
  refine AW_getI dX10_next_2 kf_X10_185 rfl (hM.1 31 (by decide) (by decide)) (by decide) ?_
  replace hf := rk_bd hf
  obtain ⟨x1, e1, hf⟩ := hf
  refine AW_iV1iz (w_X10_byteAt (d := 0) hM e1) dX10_next_5 kl_X10_188 (hM.1 31 (by decide) (by decide)) rfl (Nat.le_trans (by decide) hd) (by decide) (Nat.le_of_ble_eq_true rfl) (fun _ => ?_)
  refine AW_bipush (v := 32) dX10_next_8 (by decide) ?_
  refine AW_icmp_eq 26 dX10_next_10 (by decide) (fun h1 => ?_) (fun h1 => ?_)
  · replace hf := rk_it hf h1
    refine AW_aload_n0 dX10_next_26 ?_
    refine AW_dup dX10_next_27 rfl ?_
    refine AW_getI dX10_next_28 kf_X10_185 rfl (hM.1 31 (by decide) (by decide)) (by decide) ?_
    refine AW_iconst (v := 1) dX10_next_31 (by decide) ?_
    refine AW_iadd dX10_next_32 ?_
    replace hf := rk_bd hf
    obtain ⟨I1, e2, hf⟩ := hf
    refine AW_puI dX10_next_33 kf_X10_185 rfl (hM.1 31 (by decide) (by decide)) (by decide) e2 ?_
    refine AW_goto 0 dX10_next_36 (by decide) ?_
    refine AW_sb (rk_sbs (rk_sbn (rk_sbn rk_sb0))) ?_
    exact hc _ (Option.some.inj hf).symm
  · replace hf := rk_if hf h1
    refine AW_aload_n0 dX10_next_13 ?_
    refine AW_aload_n0 dX10_next_14 ?_
    refine AW_getI dX10_next_15 kf_X10_185 rfl (hM.1 31 (by decide) (by decide)) (by decide) ?_
    replace hf := rk_bd hf
    obtain ⟨x2, e3, hf⟩ := hf
    refine AW_iV1iz (w_X10_byteAt (d := 0) hM e3) dX10_next_18 kl_X10_188 (hM.1 31 (by decide) (by decide)) rfl (Nat.le_trans (by decide) hd) (by decide) (Nat.le_of_ble_eq_true rfl) (fun _ => ?_)
    refine AW_bipush (v := 10) dX10_next_21 (by decide) ?_
    refine AW_icmp_ne 39 dX10_next_23 (by decide) (fun h2 => ?_) (fun h2 => ?_)
    · replace hf := rk_if hf h2
      refine AW_sb (rk_sbs (rk_sbn (rk_sbn rk_sb0))) ?_
      exact he _ (Option.some.inj hf).symm
    · replace hf := rk_it hf h2
      refine AW_aload_n0 dX10_next_26 ?_
      refine AW_dup dX10_next_27 rfl ?_
      refine AW_getI dX10_next_28 kf_X10_185 rfl (hM.1 31 (by decide) (by decide)) (by decide) ?_
      refine AW_iconst (v := 1) dX10_next_31 (by decide) ?_
      refine AW_iadd dX10_next_32 ?_
      replace hf := rk_bd hf
      obtain ⟨I2, e4, hf⟩ := hf
      refine AW_puI dX10_next_33 kf_X10_185 rfl (hM.1 31 (by decide) (by decide)) (by decide) e4 ?_
      refine AW_goto 0 dX10_next_36 (by decide) ?_
      refine AW_sb (rk_sbs (rk_sbn (rk_sbn rk_sb0))) ?_
      exact hc _ (Option.some.inj hf).symm
theorem L_X10_next_w0 {G : rk_G} {l : Launch} {d kc ks : Nat} {n : Nat} {S : rk_Sh} {J : rk_J} {R : rk_R} {Q : rk_Q}  {r : rk_I} (hd : 1 ≤ d) (hM : rk_LM S R) (he : ∀ (I9 : rk_I), r = I9 → AW G l yX10_next cX10_next 3 none d kc ks 39 [some (.ref 31), none, none] [] n S I9 J R Q) :
    ∀ (m9 : Nat)  (I : rk_I), rk_loop (fun a9 => f_X10_next_l0 a9 J) m9 I = some r → AW G l yX10_next cX10_next 3 none d kc ks 0 [some (.ref 31), none, none] [] n S I J R Q := by
  intro m9
  induction m9 with
  | zero => intro I hf; cases hf
  | succ m9 ih =>
    intro I hf 
    obtain ⟨r9, hf, hr⟩ := rk_loop_s hf
    exact b_X10_next_l0 hd hM hf (fun _ h9 => by subst h9; exact ih _ hr) (fun _ h9 => by subst h9; exact he _ hr.symm)
noncomputable def f_X10_next_j351 (I : rk_I) (J : rk_J) (j1 : Int32) : Option (rk_I × rk_J) :=
(some (rk_ui I 31 25 3)).bind fun I1 =>
(some (rk_uj J 31 27 j1.toInt64)).bind fun J1 =>
(some (rk_ui I1 31 28 ((I1 31 28) + 1))).bind fun I2 =>
some (I2, J1)
theorem b_X10_next_j351 {G : rk_G} {l : Launch} {d kc ks : Nat} {n : Nat} {S : rk_Sh} {I : rk_I} {J : rk_J} {R : rk_R} {Q : rk_Q} {j1 : Int32} {r : rk_I × rk_J} (hd : 1 ≤ d) (hM : rk_LM S R) (hf : f_X10_next_j351 I J j1 = some r) (hq : ∀ (I9 : rk_I) (J9 : rk_J), r = (I9, J9) → Q (none) n S I9 J9 R) :
    AW G l yX10_next cX10_next 3 none d kc ks 351 [some (.ref 31), some (.int j1), none] [] n S I J R Q := by
  unfold f_X10_next_j351 at hf
  refine AW_aload_n0 dX10_next_351 ?_
  refine AW_iconst (v := 3) dX10_next_352 (by decide) ?_
  replace hf := rk_bd hf
  obtain ⟨I1, e1, hf⟩ := hf
  refine AW_puI dX10_next_353 kf_X10_195 rfl (hM.1 31 (by decide) (by decide)) (by decide) e1 ?_
  refine AW_aload_n0 dX10_next_356 ?_
  refine AW_iload_n1 dX10_next_357 ?_
  refine AW_i2l dX10_next_358 ?_
  replace hf := rk_bd hf
  obtain ⟨J1, e2, hf⟩ := hf
  refine AW_puJ dX10_next_359 kf_X10_202 rfl (hM.1 31 (by decide) (by decide)) (by decide) e2 ?_
  refine AW_aload_n0 dX10_next_362 ?_
  refine AW_dup dX10_next_363 rfl ?_
  refine AW_getI dX10_next_364 kf_X10_185 rfl (hM.1 31 (by decide) (by decide)) (by decide) ?_
  refine AW_iconst (v := 1) dX10_next_367 (by decide) ?_
  refine AW_iadd dX10_next_368 ?_
  replace hf := rk_bd hf
  obtain ⟨I2, e3, hf⟩ := hf
  refine AW_puI dX10_next_369 kf_X10_185 rfl (hM.1 31 (by decide) (by decide)) (by decide) e3 ?_
  exact AW_vret dX10_next_372 rfl (hq _ _ (Option.some.inj hf).symm)
noncomputable def f_X10_next_l211 (I : rk_I) (J : rk_J) (s2 : Int32) : Option ((Int32 × rk_I × rk_J) ⊕ (Int32 × rk_I × rk_J)) :=
(f_X10_byteAt I (I 31 28)).bind fun x1 =>
(f_X10_in x1.toInt64 48 57).bind fun x2 =>
if x2 = 0 then (
some (.inr (s2, I, J))) else (
if 4 ≤ s2 then (
(some (rk_uj J 31 27 (J 31 27))).bind fun J1 =>
(some (rk_ui I 31 28 ((I 31 28) + 1))).bind fun I1 =>
some (.inl ((s2 + 1), I1, J1))) else (
(f_X10_byteAt I (I 31 28)).bind fun x3 =>
(some (rk_uj J 31 27 (((10 * (J 31 27)) + x3.toInt64) - 48))).bind fun J2 =>
(some (rk_ui I 31 28 ((I 31 28) + 1))).bind fun I2 =>
some (.inl ((s2 + 1), I2, J2))))
theorem b_X10_next_l211 {G : rk_G} {l : Launch} {d kc ks : Nat} {n : Nat} {S : rk_Sh} {I : rk_I} {J : rk_J} {R : rk_R} {Q : rk_Q} {s2 : Int32} {r : (Int32 × rk_I × rk_J) ⊕ (Int32 × rk_I × rk_J)} (hd : 1 ≤ d) (hM : rk_LM S R) (hf : f_X10_next_l211 I J s2 = some r) (hc : ∀ (w0 : Int32) (I9 : rk_I) (J9 : rk_J), r = .inl (w0, I9, J9) → AW G l yX10_next cX10_next 3 none d kc ks 211 [some (.ref 31), none, some (.int w0)] [] n S I9 J9 R Q) (he : ∀ (w0 : Int32) (I9 : rk_I) (J9 : rk_J), r = .inr (w0, I9, J9) → AW G l yX10_next cX10_next 3 none d kc ks 286 [some (.ref 31), none, some (.int w0)] [] n S I9 J9 R Q) :
    AW G l yX10_next cX10_next 3 none d kc ks 211 [some (.ref 31), none, some (.int s2)] [] n S I J R Q := by
  unfold f_X10_next_l211 at hf
  refine AW_aload_n0 dX10_next_211 ?_
  refine AW_aload_n0 dX10_next_212 ?_
  refine AW_getI dX10_next_213 kf_X10_185 rfl (hM.1 31 (by decide) (by decide)) (by decide) ?_
  replace hf := rk_bd hf
  obtain ⟨x1, e1, hf⟩ := hf
  refine AW_iV1iz (w_X10_byteAt (d := 0) hM e1) dX10_next_216 kl_X10_188 (hM.1 31 (by decide) (by decide)) rfl (Nat.le_trans (by decide) hd) (by decide) (Nat.le_of_ble_eq_true rfl) (fun _ => ?_)
  refine AW_i2l dX10_next_219 ?_
  refine AW_ldc2 dX10_next_220 kv_X10_210 ?_
  refine AW_ldc2 dX10_next_223 kv_X10_212 ?_
  replace hf := rk_bd hf
  obtain ⟨x2, e2, hf⟩ := hf
  refine AW_iS3iz (w_X10_in (d := 0) e2) dX10_next_226 kl_X10_114 (Nat.le_trans (by decide) hd) (by decide) (Nat.le_of_ble_eq_true rfl) (fun _ => ?_)
  refine AW_if_eq 286 dX10_next_229 (by decide) (fun h1 => ?_) (fun h1 => ?_)
  · replace hf := rk_it hf h1
    refine AW_sb (rk_sbs (rk_sbn (rk_sbs rk_sb0))) ?_
    exact he _ _ _ (Option.some.inj hf).symm
  · replace hf := rk_if hf h1
    refine AW_aload_n0 dX10_next_232 ?_
    refine AW_iload_n2 dX10_next_233 ?_
    refine AW_iconst (v := 4) dX10_next_234 (by decide) ?_
    refine AW_icmp_ge 263 dX10_next_235 (by decide) (fun h2 => ?_) (fun h2 => ?_)
    · replace hf := rk_it hf h2
      refine AW_aload_n0 dX10_next_263 ?_
      refine AW_getJ dX10_next_264 kf_X10_202 rfl (hM.1 31 (by decide) (by decide)) (by decide) ?_
      replace hf := rk_bd hf
      obtain ⟨J1, e3, hf⟩ := hf
      refine AW_puJ dX10_next_267 kf_X10_202 rfl (hM.1 31 (by decide) (by decide)) (by decide) e3 ?_
      refine AW_iinc_2 (v := 1) dX10_next_270 (by decide) (by decide) rfl ?_
      refine AW_aload_n0 dX10_next_273 ?_
      refine AW_dup dX10_next_274 rfl ?_
      refine AW_getI dX10_next_275 kf_X10_185 rfl (hM.1 31 (by decide) (by decide)) (by decide) ?_
      refine AW_iconst (v := 1) dX10_next_278 (by decide) ?_
      refine AW_iadd dX10_next_279 ?_
      replace hf := rk_bd hf
      obtain ⟨I1, e4, hf⟩ := hf
      refine AW_puI dX10_next_280 kf_X10_185 rfl (hM.1 31 (by decide) (by decide)) (by decide) e4 ?_
      refine AW_goto 211 dX10_next_283 (by decide) ?_
      refine AW_sb (rk_sbs (rk_sbn (rk_sbs rk_sb0))) ?_
      exact hc _ _ _ (Option.some.inj hf).symm
    · replace hf := rk_if hf h2
      refine AW_ldc2 dX10_next_238 kv_X10_214 ?_
      refine AW_aload_n0 dX10_next_241 ?_
      refine AW_getJ dX10_next_242 kf_X10_202 rfl (hM.1 31 (by decide) (by decide)) (by decide) ?_
      refine AW_lmul dX10_next_245 ?_
      refine AW_aload_n0 dX10_next_246 ?_
      refine AW_aload_n0 dX10_next_247 ?_
      refine AW_getI dX10_next_248 kf_X10_185 rfl (hM.1 31 (by decide) (by decide)) (by decide) ?_
      replace hf := rk_bd hf
      obtain ⟨x3, e5, hf⟩ := hf
      refine AW_iV1iz (w_X10_byteAt (d := 0) hM e5) dX10_next_251 kl_X10_188 (hM.1 31 (by decide) (by decide)) rfl (Nat.le_trans (by decide) hd) (by decide) (Nat.le_of_ble_eq_true rfl) (fun _ => ?_)
      refine AW_i2l dX10_next_254 ?_
      refine AW_ladd dX10_next_255 ?_
      refine AW_ldc2 dX10_next_256 kv_X10_210 ?_
      refine AW_lsub dX10_next_259 ?_
      refine AW_goto 267 dX10_next_260 (by decide) ?_
      replace hf := rk_bd hf
      obtain ⟨J2, e6, hf⟩ := hf
      refine AW_puJ dX10_next_267 kf_X10_202 rfl (hM.1 31 (by decide) (by decide)) (by decide) e6 ?_
      refine AW_iinc_2 (v := 1) dX10_next_270 (by decide) (by decide) rfl ?_
      refine AW_aload_n0 dX10_next_273 ?_
      refine AW_dup dX10_next_274 rfl ?_
      refine AW_getI dX10_next_275 kf_X10_185 rfl (hM.1 31 (by decide) (by decide)) (by decide) ?_
      refine AW_iconst (v := 1) dX10_next_278 (by decide) ?_
      refine AW_iadd dX10_next_279 ?_
      replace hf := rk_bd hf
      obtain ⟨I2, e7, hf⟩ := hf
      refine AW_puI dX10_next_280 kf_X10_185 rfl (hM.1 31 (by decide) (by decide)) (by decide) e7 ?_
      refine AW_goto 211 dX10_next_283 (by decide) ?_
      refine AW_sb (rk_sbs (rk_sbn (rk_sbs rk_sb0))) ?_
      exact hc _ _ _ (Option.some.inj hf).symm
theorem L_X10_next_w211 {G : rk_G} {l : Launch} {d kc ks : Nat} {n : Nat} {S : rk_Sh} {R : rk_R} {Q : rk_Q}  {r : Int32 × rk_I × rk_J} (hd : 1 ≤ d) (hM : rk_LM S R) (he : ∀ (w0 : Int32) (I9 : rk_I) (J9 : rk_J), r = (w0, I9, J9) → AW G l yX10_next cX10_next 3 none d kc ks 286 [some (.ref 31), none, some (.int w0)] [] n S I9 J9 R Q) :
    ∀ (m9 : Nat) (s2 : Int32) (I : rk_I) (J : rk_J), rk_loop (fun a9 => f_X10_next_l211 a9.2.1 a9.2.2 a9.1) m9 (s2, I, J) = some r → AW G l yX10_next cX10_next 3 none d kc ks 211 [some (.ref 31), none, some (.int s2)] [] n S I J R Q := by
  intro m9
  induction m9 with
  | zero => intro s2 I J hf; cases hf
  | succ m9 ih =>
    intro s2 I J hf 
    obtain ⟨r9, hf, hr⟩ := rk_loop_s hf
    exact b_X10_next_l211 hd hM hf (fun _ _ _ h9 => by subst h9; exact ih _ _ _ hr) (fun _ _ _ h9 => by subst h9; exact he _ _ _ hr.symm)
noncomputable def f_X10_next_l107 (I : rk_I) (J : rk_J) (s2 : Int32) : Option ((Int32 × rk_I × rk_J) ⊕ (Int32 × rk_I × rk_J)) :=
(f_X10_byteAt I (I 31 28)).bind fun x1 =>
(f_X10_in x1.toInt64 97 122).bind fun x2 =>
if x2 = 0 then (
some (.inr (s2, I, J))) else (
if 8 ≤ s2 then (
(some (rk_uj J 31 27 (-1))).bind fun J1 =>
(some (rk_ui I 31 28 ((I 31 28) + 1))).bind fun I1 =>
some (.inl ((s2 + 1), I1, J1))) else (
(f_X10_byteAt I (I 31 28)).bind fun x3 =>
(some (rk_uj J 31 27 (((27 * (J 31 27)) + x3.toInt64) - 96))).bind fun J2 =>
(some (rk_ui I 31 28 ((I 31 28) + 1))).bind fun I2 =>
some (.inl ((s2 + 1), I2, J2))))
theorem b_X10_next_l107 {G : rk_G} {l : Launch} {d kc ks : Nat} {n : Nat} {S : rk_Sh} {I : rk_I} {J : rk_J} {R : rk_R} {Q : rk_Q} {s2 : Int32} {r : (Int32 × rk_I × rk_J) ⊕ (Int32 × rk_I × rk_J)} (hd : 1 ≤ d) (hM : rk_LM S R) (hf : f_X10_next_l107 I J s2 = some r) (hc : ∀ (w0 : Int32) (I9 : rk_I) (J9 : rk_J), r = .inl (w0, I9, J9) → AW G l yX10_next cX10_next 3 none d kc ks 107 [some (.ref 31), none, some (.int w0)] [] n S I9 J9 R Q) (he : ∀ (w0 : Int32) (I9 : rk_I) (J9 : rk_J), r = .inr (w0, I9, J9) → AW G l yX10_next cX10_next 3 none d kc ks 182 [some (.ref 31), none, some (.int w0)] [] n S I9 J9 R Q) :
    AW G l yX10_next cX10_next 3 none d kc ks 107 [some (.ref 31), none, some (.int s2)] [] n S I J R Q := by
  unfold f_X10_next_l107 at hf
  refine AW_aload_n0 dX10_next_107 ?_
  refine AW_aload_n0 dX10_next_108 ?_
  refine AW_getI dX10_next_109 kf_X10_185 rfl (hM.1 31 (by decide) (by decide)) (by decide) ?_
  replace hf := rk_bd hf
  obtain ⟨x1, e1, hf⟩ := hf
  refine AW_iV1iz (w_X10_byteAt (d := 0) hM e1) dX10_next_112 kl_X10_188 (hM.1 31 (by decide) (by decide)) rfl (Nat.le_trans (by decide) hd) (by decide) (Nat.le_of_ble_eq_true rfl) (fun _ => ?_)
  refine AW_i2l dX10_next_115 ?_
  refine AW_ldc2 dX10_next_116 kv_X10_198 ?_
  refine AW_ldc2 dX10_next_119 kv_X10_200 ?_
  replace hf := rk_bd hf
  obtain ⟨x2, e2, hf⟩ := hf
  refine AW_iS3iz (w_X10_in (d := 0) e2) dX10_next_122 kl_X10_114 (Nat.le_trans (by decide) hd) (by decide) (Nat.le_of_ble_eq_true rfl) (fun _ => ?_)
  refine AW_if_eq 182 dX10_next_125 (by decide) (fun h1 => ?_) (fun h1 => ?_)
  · replace hf := rk_it hf h1
    refine AW_sb (rk_sbs (rk_sbn (rk_sbs rk_sb0))) ?_
    exact he _ _ _ (Option.some.inj hf).symm
  · replace hf := rk_if hf h1
    refine AW_aload_n0 dX10_next_128 ?_
    refine AW_iload_n2 dX10_next_129 ?_
    refine AW_bipush (v := 8) dX10_next_130 (by decide) ?_
    refine AW_icmp_ge 160 dX10_next_132 (by decide) (fun h2 => ?_) (fun h2 => ?_)
    · replace hf := rk_it hf h2
      refine AW_ldc2 dX10_next_160 kv_X10_134 ?_
      replace hf := rk_bd hf
      obtain ⟨J1, e3, hf⟩ := hf
      refine AW_puJ dX10_next_163 kf_X10_202 rfl (hM.1 31 (by decide) (by decide)) (by decide) e3 ?_
      refine AW_iinc_2 (v := 1) dX10_next_166 (by decide) (by decide) rfl ?_
      refine AW_aload_n0 dX10_next_169 ?_
      refine AW_dup dX10_next_170 rfl ?_
      refine AW_getI dX10_next_171 kf_X10_185 rfl (hM.1 31 (by decide) (by decide)) (by decide) ?_
      refine AW_iconst (v := 1) dX10_next_174 (by decide) ?_
      refine AW_iadd dX10_next_175 ?_
      replace hf := rk_bd hf
      obtain ⟨I1, e4, hf⟩ := hf
      refine AW_puI dX10_next_176 kf_X10_185 rfl (hM.1 31 (by decide) (by decide)) (by decide) e4 ?_
      refine AW_goto 107 dX10_next_179 (by decide) ?_
      refine AW_sb (rk_sbs (rk_sbn (rk_sbs rk_sb0))) ?_
      exact hc _ _ _ (Option.some.inj hf).symm
    · replace hf := rk_if hf h2
      refine AW_ldc2 dX10_next_135 kv_X10_206 ?_
      refine AW_aload_n0 dX10_next_138 ?_
      refine AW_getJ dX10_next_139 kf_X10_202 rfl (hM.1 31 (by decide) (by decide)) (by decide) ?_
      refine AW_lmul dX10_next_142 ?_
      refine AW_aload_n0 dX10_next_143 ?_
      refine AW_aload_n0 dX10_next_144 ?_
      refine AW_getI dX10_next_145 kf_X10_185 rfl (hM.1 31 (by decide) (by decide)) (by decide) ?_
      replace hf := rk_bd hf
      obtain ⟨x3, e5, hf⟩ := hf
      refine AW_iV1iz (w_X10_byteAt (d := 0) hM e5) dX10_next_148 kl_X10_188 (hM.1 31 (by decide) (by decide)) rfl (Nat.le_trans (by decide) hd) (by decide) (Nat.le_of_ble_eq_true rfl) (fun _ => ?_)
      refine AW_i2l dX10_next_151 ?_
      refine AW_ladd dX10_next_152 ?_
      refine AW_ldc2 dX10_next_153 kv_X10_208 ?_
      refine AW_lsub dX10_next_156 ?_
      refine AW_goto 163 dX10_next_157 (by decide) ?_
      replace hf := rk_bd hf
      obtain ⟨J2, e6, hf⟩ := hf
      refine AW_puJ dX10_next_163 kf_X10_202 rfl (hM.1 31 (by decide) (by decide)) (by decide) e6 ?_
      refine AW_iinc_2 (v := 1) dX10_next_166 (by decide) (by decide) rfl ?_
      refine AW_aload_n0 dX10_next_169 ?_
      refine AW_dup dX10_next_170 rfl ?_
      refine AW_getI dX10_next_171 kf_X10_185 rfl (hM.1 31 (by decide) (by decide)) (by decide) ?_
      refine AW_iconst (v := 1) dX10_next_174 (by decide) ?_
      refine AW_iadd dX10_next_175 ?_
      replace hf := rk_bd hf
      obtain ⟨I2, e7, hf⟩ := hf
      refine AW_puI dX10_next_176 kf_X10_185 rfl (hM.1 31 (by decide) (by decide)) (by decide) e7 ?_
      refine AW_goto 107 dX10_next_179 (by decide) ?_
      refine AW_sb (rk_sbs (rk_sbn (rk_sbs rk_sb0))) ?_
      exact hc _ _ _ (Option.some.inj hf).symm
theorem L_X10_next_w107 {G : rk_G} {l : Launch} {d kc ks : Nat} {n : Nat} {S : rk_Sh} {R : rk_R} {Q : rk_Q}  {r : Int32 × rk_I × rk_J} (hd : 1 ≤ d) (hM : rk_LM S R) (he : ∀ (w0 : Int32) (I9 : rk_I) (J9 : rk_J), r = (w0, I9, J9) → AW G l yX10_next cX10_next 3 none d kc ks 182 [some (.ref 31), none, some (.int w0)] [] n S I9 J9 R Q) :
    ∀ (m9 : Nat) (s2 : Int32) (I : rk_I) (J : rk_J), rk_loop (fun a9 => f_X10_next_l107 a9.2.1 a9.2.2 a9.1) m9 (s2, I, J) = some r → AW G l yX10_next cX10_next 3 none d kc ks 107 [some (.ref 31), none, some (.int s2)] [] n S I J R Q := by
  intro m9
  induction m9 with
  | zero => intro s2 I J hf; cases hf
  | succ m9 ih =>
    intro s2 I J hf 
    obtain ⟨r9, hf, hr⟩ := rk_loop_s hf
    exact b_X10_next_l107 hd hM hf (fun _ _ _ h9 => by subst h9; exact ih _ _ _ hr) (fun _ _ _ h9 => by subst h9; exact he _ _ _ hr.symm)
noncomputable def f_X10_next (I : rk_I) (J : rk_J)  : Option (rk_I × rk_J) :=
(rk_while (fun a9 => f_X10_next_l0 a9 J) I).bind fun I1 =>
(some (rk_ui I1 31 26 (I1 31 28))).bind fun I2 =>
(f_X10_byteAt I2 (I2 31 28)).bind fun x1 =>
(some (rk_ui I2 31 25 4)).bind fun I3 =>
if 0 ≤ x1 then (
(f_X10_in x1.toInt64 97 122).bind fun x2 =>
if x2 = 0 then (
(f_X10_in x1.toInt64 48 57).bind fun x3 =>
if x3 = 0 then (
if x1 = 40 then (
f_X10_next_j351 I3 J x1) else (
if x1 = 41 then (
f_X10_next_j351 I3 J x1) else (
if x1 = 59 then (
f_X10_next_j351 I3 J x1) else (
if x1 = 43 then (
f_X10_next_j351 I3 J x1) else (
if x1 = 45 then (
f_X10_next_j351 I3 J x1) else (
if x1 = 42 then (
f_X10_next_j351 I3 J x1) else (
if x1 = 60 then (
f_X10_next_j351 I3 J x1) else (
if x1 = 61 then (
f_X10_next_j351 I3 J x1) else (
some (I3, J)))))))))) else (
(some (rk_ui I3 31 25 2)).bind fun I4 =>
(some (rk_uj J 31 27 0)).bind fun J1 =>
rk_b3 (rk_while (fun a9 => f_X10_next_l211 a9.2.1 a9.2.2 a9.1) (0, I4, J1)) fun x4 I5 J2 =>
if x4 ≤ 4 then (
(some (rk_ui I5 31 25 2)).bind fun I6 =>
some (I6, J2)) else (
(some (rk_ui I5 31 25 4)).bind fun I7 =>
some (I7, J2)))) else (
(some (rk_ui I3 31 25 1)).bind fun I8 =>
(some (rk_uj J 31 27 0)).bind fun J3 =>
rk_b3 (rk_while (fun a9 => f_X10_next_l107 a9.2.1 a9.2.2 a9.1) (0, I8, J3)) fun x5 I9 J4 =>
some (I9, J4))) else (
(some (rk_ui I3 31 25 0)).bind fun I10 =>
(some (rk_ui I10 31 26 (I10 31 24))).bind fun I11 =>
some (I11, J))
theorem b_X10_next {G : rk_G} {l : Launch} {d kc ks : Nat} {n : Nat} {S : rk_Sh} {I : rk_I} {J : rk_J} {R : rk_R} {Q : rk_Q}  {r : rk_I × rk_J} (hd : 1 ≤ d) (hM : rk_LM S R) (hf : f_X10_next I J = some r) (hq : ∀ (I9 : rk_I) (J9 : rk_J), r = (I9, J9) → Q (none) n S I9 J9 R) :
    AW G l yX10_next cX10_next 3 none d kc ks 0 [some (.ref 31), none, none] [] n S I J R Q := by
  unfold f_X10_next at hf
  refine AW_sb (rk_sbs (rk_sbn (rk_sbn rk_sb0))) ?_
  replace hf := rk_bd hf
  obtain ⟨I1, e1, hf⟩ := hf
  obtain ⟨m1, e1⟩ := rk_while_sp e1
  refine L_X10_next_w0 (Nat.le_trans (by decide) hd) hM ?_ m1 _ e1
  intro I1 h9
  cases h9
  refine AW_aload_n0 dX10_next_39 ?_
  refine AW_aload_n0 dX10_next_40 ?_
  refine AW_getI dX10_next_41 kf_X10_185 rfl (hM.1 31 (by decide) (by decide)) (by decide) ?_
  replace hf := rk_bd hf
  obtain ⟨I2, e2, hf⟩ := hf
  refine AW_puI dX10_next_44 kf_X10_192 rfl (hM.1 31 (by decide) (by decide)) (by decide) e2 ?_
  refine AW_aload_n0 dX10_next_47 ?_
  refine AW_aload_n0 dX10_next_48 ?_
  refine AW_getI dX10_next_49 kf_X10_185 rfl (hM.1 31 (by decide) (by decide)) (by decide) ?_
  replace hf := rk_bd hf
  obtain ⟨x1, e3, hf⟩ := hf
  refine AW_iV1iz (w_X10_byteAt (d := 0) hM e3) dX10_next_52 kl_X10_188 (hM.1 31 (by decide) (by decide)) rfl (Nat.le_trans (by decide) hd) (by decide) (Nat.le_of_ble_eq_true rfl) (fun _ => ?_)
  refine AW_istore_n1 dX10_next_55 (by decide) rfl ?_
  refine AW_aload_n0 dX10_next_56 ?_
  refine AW_iconst (v := 4) dX10_next_57 (by decide) ?_
  replace hf := rk_bd hf
  obtain ⟨I3, e4, hf⟩ := hf
  refine AW_puI dX10_next_58 kf_X10_195 rfl (hM.1 31 (by decide) (by decide)) (by decide) e4 ?_
  refine AW_iload_n1 dX10_next_61 ?_
  refine AW_if_ge 81 dX10_next_62 (by decide) (fun h1 => ?_) (fun h1 => ?_)
  · replace hf := rk_it hf h1
    refine AW_iload_n1 dX10_next_81 ?_
    refine AW_i2l dX10_next_82 ?_
    refine AW_ldc2 dX10_next_83 kv_X10_198 ?_
    refine AW_ldc2 dX10_next_86 kv_X10_200 ?_
    replace hf := rk_bd hf
    obtain ⟨x2, e5, hf⟩ := hf
    refine AW_iS3iz (w_X10_in (d := 0) e5) dX10_next_89 kl_X10_114 (Nat.le_trans (by decide) hd) (by decide) (Nat.le_of_ble_eq_true rfl) (fun _ => ?_)
    refine AW_if_eq 185 dX10_next_92 (by decide) (fun h2 => ?_) (fun h2 => ?_)
    · replace hf := rk_it hf h2
      refine AW_iload_n1 dX10_next_185 ?_
      refine AW_i2l dX10_next_186 ?_
      refine AW_ldc2 dX10_next_187 kv_X10_210 ?_
      refine AW_ldc2 dX10_next_190 kv_X10_212 ?_
      replace hf := rk_bd hf
      obtain ⟨x3, e6, hf⟩ := hf
      refine AW_iS3iz (w_X10_in (d := 0) e6) dX10_next_193 kl_X10_114 (Nat.le_trans (by decide) hd) (by decide) (Nat.le_of_ble_eq_true rfl) (fun _ => ?_)
      refine AW_if_eq 303 dX10_next_196 (by decide) (fun h3 => ?_) (fun h3 => ?_)
      · replace hf := rk_it hf h3
        refine AW_iload_n1 dX10_next_303 ?_
        refine AW_bipush (v := 40) dX10_next_304 (by decide) ?_
        refine AW_icmp_eq 351 dX10_next_306 (by decide) (fun h4 => ?_) (fun h4 => ?_)
        · replace hf := rk_it hf h4
          refine AW_sb (rk_sbs (rk_sbs (rk_sbn rk_sb0))) ?_
          exact b_X10_next_j351 (Nat.le_trans (by decide) hd) hM hf hq
        · replace hf := rk_if hf h4
          refine AW_iload_n1 dX10_next_309 ?_
          refine AW_bipush (v := 41) dX10_next_310 (by decide) ?_
          refine AW_icmp_eq 351 dX10_next_312 (by decide) (fun h5 => ?_) (fun h5 => ?_)
          · replace hf := rk_it hf h5
            refine AW_sb (rk_sbs (rk_sbs (rk_sbn rk_sb0))) ?_
            exact b_X10_next_j351 (Nat.le_trans (by decide) hd) hM hf hq
          · replace hf := rk_if hf h5
            refine AW_iload_n1 dX10_next_315 ?_
            refine AW_bipush (v := 59) dX10_next_316 (by decide) ?_
            refine AW_icmp_eq 351 dX10_next_318 (by decide) (fun h6 => ?_) (fun h6 => ?_)
            · replace hf := rk_it hf h6
              refine AW_sb (rk_sbs (rk_sbs (rk_sbn rk_sb0))) ?_
              exact b_X10_next_j351 (Nat.le_trans (by decide) hd) hM hf hq
            · replace hf := rk_if hf h6
              refine AW_iload_n1 dX10_next_321 ?_
              refine AW_bipush (v := 43) dX10_next_322 (by decide) ?_
              refine AW_icmp_eq 351 dX10_next_324 (by decide) (fun h7 => ?_) (fun h7 => ?_)
              · replace hf := rk_it hf h7
                refine AW_sb (rk_sbs (rk_sbs (rk_sbn rk_sb0))) ?_
                exact b_X10_next_j351 (Nat.le_trans (by decide) hd) hM hf hq
              · replace hf := rk_if hf h7
                refine AW_iload_n1 dX10_next_327 ?_
                refine AW_bipush (v := 45) dX10_next_328 (by decide) ?_
                refine AW_icmp_eq 351 dX10_next_330 (by decide) (fun h8 => ?_) (fun h8 => ?_)
                · replace hf := rk_it hf h8
                  refine AW_sb (rk_sbs (rk_sbs (rk_sbn rk_sb0))) ?_
                  exact b_X10_next_j351 (Nat.le_trans (by decide) hd) hM hf hq
                · replace hf := rk_if hf h8
                  refine AW_iload_n1 dX10_next_333 ?_
                  refine AW_bipush (v := 42) dX10_next_334 (by decide) ?_
                  refine AW_icmp_eq 351 dX10_next_336 (by decide) (fun h9 => ?_) (fun h9 => ?_)
                  · replace hf := rk_it hf h9
                    refine AW_sb (rk_sbs (rk_sbs (rk_sbn rk_sb0))) ?_
                    exact b_X10_next_j351 (Nat.le_trans (by decide) hd) hM hf hq
                  · replace hf := rk_if hf h9
                    refine AW_iload_n1 dX10_next_339 ?_
                    refine AW_bipush (v := 60) dX10_next_340 (by decide) ?_
                    refine AW_icmp_eq 351 dX10_next_342 (by decide) (fun h10 => ?_) (fun h10 => ?_)
                    · replace hf := rk_it hf h10
                      refine AW_sb (rk_sbs (rk_sbs (rk_sbn rk_sb0))) ?_
                      exact b_X10_next_j351 (Nat.le_trans (by decide) hd) hM hf hq
                    · replace hf := rk_if hf h10
                      refine AW_iload_n1 dX10_next_345 ?_
                      refine AW_bipush (v := 61) dX10_next_346 (by decide) ?_
                      refine AW_icmp_ne 372 dX10_next_348 (by decide) (fun h11 => ?_) (fun h11 => ?_)
                      · replace hf := rk_if hf h11
                        exact AW_vret dX10_next_372 rfl (hq _ _ (Option.some.inj hf).symm)
                      · replace hf := rk_it hf h11
                        refine AW_sb (rk_sbs (rk_sbs (rk_sbn rk_sb0))) ?_
                        exact b_X10_next_j351 (Nat.le_trans (by decide) hd) hM hf hq
      · replace hf := rk_if hf h3
        refine AW_aload_n0 dX10_next_199 ?_
        refine AW_iconst (v := 2) dX10_next_200 (by decide) ?_
        replace hf := rk_bd hf
        obtain ⟨I4, e7, hf⟩ := hf
        refine AW_puI dX10_next_201 kf_X10_195 rfl (hM.1 31 (by decide) (by decide)) (by decide) e7 ?_
        refine AW_aload_n0 dX10_next_204 ?_
        refine AW_lconst (v := 0) dX10_next_205 (by decide) ?_
        replace hf := rk_bd hf
        obtain ⟨J1, e8, hf⟩ := hf
        refine AW_puJ dX10_next_206 kf_X10_202 rfl (hM.1 31 (by decide) (by decide)) (by decide) e8 ?_
        refine AW_iconst (v := 0) dX10_next_209 (by decide) ?_
        refine AW_istore_n2 dX10_next_210 (by decide) rfl ?_
        refine AW_sb (rk_sbs (rk_sbn (rk_sbs rk_sb0))) ?_
        replace hf := rk_bd3 hf
        obtain ⟨x4, I5, J2, e9, hf⟩ := hf
        obtain ⟨m2, e9⟩ := rk_while_sp e9
        refine L_X10_next_w211 (Nat.le_trans (by decide) hd) hM ?_ m2 _ _ _ e9
        intro x4 I5 J2 h9
        cases h9
        refine AW_aload_n0 dX10_next_286 ?_
        refine AW_iload_n2 dX10_next_287 ?_
        refine AW_iconst (v := 4) dX10_next_288 (by decide) ?_
        refine AW_icmp_le 296 dX10_next_289 (by decide) (fun h12 => ?_) (fun h12 => ?_)
        · replace hf := rk_it hf h12
          refine AW_iconst (v := 2) dX10_next_296 (by decide) ?_
          replace hf := rk_bd hf
          obtain ⟨I6, e10, hf⟩ := hf
          refine AW_puI dX10_next_297 kf_X10_195 rfl (hM.1 31 (by decide) (by decide)) (by decide) e10 ?_
          refine AW_goto 372 dX10_next_300 (by decide) ?_
          exact AW_vret dX10_next_372 rfl (hq _ _ (Option.some.inj hf).symm)
        · replace hf := rk_if hf h12
          refine AW_iconst (v := 4) dX10_next_292 (by decide) ?_
          refine AW_goto 297 dX10_next_293 (by decide) ?_
          replace hf := rk_bd hf
          obtain ⟨I7, e11, hf⟩ := hf
          refine AW_puI dX10_next_297 kf_X10_195 rfl (hM.1 31 (by decide) (by decide)) (by decide) e11 ?_
          refine AW_goto 372 dX10_next_300 (by decide) ?_
          exact AW_vret dX10_next_372 rfl (hq _ _ (Option.some.inj hf).symm)
    · replace hf := rk_if hf h2
      refine AW_aload_n0 dX10_next_95 ?_
      refine AW_iconst (v := 1) dX10_next_96 (by decide) ?_
      replace hf := rk_bd hf
      obtain ⟨I8, e12, hf⟩ := hf
      refine AW_puI dX10_next_97 kf_X10_195 rfl (hM.1 31 (by decide) (by decide)) (by decide) e12 ?_
      refine AW_aload_n0 dX10_next_100 ?_
      refine AW_lconst (v := 0) dX10_next_101 (by decide) ?_
      replace hf := rk_bd hf
      obtain ⟨J3, e13, hf⟩ := hf
      refine AW_puJ dX10_next_102 kf_X10_202 rfl (hM.1 31 (by decide) (by decide)) (by decide) e13 ?_
      refine AW_iconst (v := 0) dX10_next_105 (by decide) ?_
      refine AW_istore_n2 dX10_next_106 (by decide) rfl ?_
      refine AW_sb (rk_sbs (rk_sbn (rk_sbs rk_sb0))) ?_
      replace hf := rk_bd3 hf
      obtain ⟨x5, I9, J4, e14, hf⟩ := hf
      obtain ⟨m3, e14⟩ := rk_while_sp e14
      refine L_X10_next_w107 (Nat.le_trans (by decide) hd) hM ?_ m3 _ _ _ e14
      intro x5 I9 J4 h9
      cases h9
      refine AW_goto 372 dX10_next_182 (by decide) ?_
      exact AW_vret dX10_next_372 rfl (hq _ _ (Option.some.inj hf).symm)
  · replace hf := rk_if hf h1
    refine AW_aload_n0 dX10_next_65 ?_
    refine AW_iconst (v := 0) dX10_next_66 (by decide) ?_
    replace hf := rk_bd hf
    obtain ⟨I10, e15, hf⟩ := hf
    refine AW_puI dX10_next_67 kf_X10_195 rfl (hM.1 31 (by decide) (by decide)) (by decide) e15 ?_
    refine AW_aload_n0 dX10_next_70 ?_
    refine AW_aload_n0 dX10_next_71 ?_
    refine AW_getI dX10_next_72 kf_X10_179 rfl (hM.1 31 (by decide) (by decide)) (by decide) ?_
    replace hf := rk_bd hf
    obtain ⟨I11, e16, hf⟩ := hf
    refine AW_puI dX10_next_75 kf_X10_192 rfl (hM.1 31 (by decide) (by decide)) (by decide) e16 ?_
    refine AW_goto 372 dX10_next_78 (by decide) ?_
    exact AW_vret dX10_next_372 rfl (hq _ _ (Option.some.inj hf).symm)
theorem w_X10_next {G : rk_G} {l : Launch} {d : Nat} {n : Nat} {S : rk_Sh} {I : rk_I} {J : rk_J} {R : rk_R}  {I8 : rk_I} {J8 : rk_J} (hd : 1 ≤ d) (hM : rk_LM S R) (hf : f_X10_next I J = some (I8, J8)) :
    CW G l yX10_next cX10_next 3 none d 0 0 [.ref 31] n S I J R (rk_qv n S I8 J8 R True) :=
  CW.of (by decide +kernel) (Nat.le_of_ble_eq_true rfl) (rk_sbs (rk_sbe (rk_sbe rk_sb0))) (b_X10_next hd hM hf (fun I9 J9 h9 => by cases h9; exact ⟨rfl, rfl, rfl, rfl, rfl, rfl, trivial⟩))
