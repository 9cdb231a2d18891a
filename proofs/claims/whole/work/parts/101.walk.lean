noncomputable def f_X10_passes (I : rk_I) (a1 : Int32) (a2 : Int32) : Option (Int32) :=
if a2 = 0 then (
(rk_rd I 38 24 a1).bind fun x3 =>
(f_X10_thingBy I a1 x3).bind fun x4 =>
some x4) else (
(rk_rd I 38 24 a1).bind fun x1 =>
(f_X10_lossBy I a1 x1).bind fun x2 =>
some x2)
theorem b_X10_passes {G : rk_G} {l : Launch} {d kc ks : Nat} {n : Nat} {S : rk_Sh} {I : rk_I} {J : rk_J} {R : rk_R} {Q : rk_Q} {a1 : Int32} {a2 : Int32} {r : Int32} (hd : 3 ≤ d) (hM : rk_LM S R) (hf : f_X10_passes I a1 a2 = some r) (hq : ∀ (v9 : Int32), r = v9 → Q (some (.int v9)) n S I J R) :
    AW G l yX10_passes cX10_passes 3 (some .int) d kc ks 0 [some (.ref 31), some (.int a1), some (.int a2)] [] n S I J R Q := by
  unfold f_X10_passes at hf
  refine AW_iload_n2 dX10_passes_0 ?_
  refine AW_if_ne 18 dX10_passes_1 (by decide) (fun h1 => ?_) (fun h1 => ?_)
  · replace hf := rk_if hf h1
    refine AW_aload_n0 dX10_passes_18 ?_
    refine AW_iload_n1 dX10_passes_19 ?_
    refine AW_aload_n0 dX10_passes_20 ?_
    refine AW_getR dX10_passes_21 kf_X10_32 rfl (hM.1 31 (by decide) (by decide)) (by decide) (hM.2 31 11 38 rfl) ?_
    refine AW_iload_n1 dX10_passes_24 ?_
    replace hf := rk_bd hf
    obtain ⟨x1, e1, hf⟩ := hf
    refine AW_rd dX10_passes_25 (hM.1 38 (by decide) (by decide)) e1 ?_
    replace hf := rk_bd hf
    obtain ⟨x2, e2, hf⟩ := hf
    refine AW_iV2iz (w_X10_lossBy (d := 2) (Nat.le_refl _) hM e2) dX10_passes_26 kl_X10_154 (hM.1 31 (by decide) (by decide)) rfl (Nat.le_trans (by decide) hd) (by decide) (Nat.le_of_ble_eq_true rfl) (fun _ => ?_)
    exact AW_iret dX10_passes_29 rfl (hq _ (Option.some.inj hf).symm)
  · replace hf := rk_it hf h1
    refine AW_aload_n0 dX10_passes_4 ?_
    refine AW_iload_n1 dX10_passes_5 ?_
    refine AW_aload_n0 dX10_passes_6 ?_
    refine AW_getR dX10_passes_7 kf_X10_32 rfl (hM.1 31 (by decide) (by decide)) (by decide) (hM.2 31 11 38 rfl) ?_
    refine AW_iload_n1 dX10_passes_10 ?_
    replace hf := rk_bd hf
    obtain ⟨x3, e3, hf⟩ := hf
    refine AW_rd dX10_passes_11 (hM.1 38 (by decide) (by decide)) e3 ?_
    replace hf := rk_bd hf
    obtain ⟨x4, e4, hf⟩ := hf
    refine AW_iV2iz (w_X10_thingBy (d := 1) (Nat.le_refl _) hM e4) dX10_passes_12 kl_X10_151 (hM.1 31 (by decide) (by decide)) rfl (Nat.le_trans (by decide) hd) (by decide) (Nat.le_of_ble_eq_true rfl) (fun _ => ?_)
    refine AW_goto 29 dX10_passes_15 (by decide) ?_
    exact AW_iret dX10_passes_29 rfl (hq _ (Option.some.inj hf).symm)
theorem w_X10_passes {G : rk_G} {l : Launch} {d : Nat} {n : Nat} {S : rk_Sh} {I : rk_I} {J : rk_J} {R : rk_R} {a1 : Int32} {a2 : Int32} {v8 : Int32} (hd : 3 ≤ d) (hM : rk_LM S R) (hf : f_X10_passes I a1 a2 = some v8) :
    CW G l yX10_passes cX10_passes 3 (some .int) d 0 0 [.ref 31, .int a1, .int a2] n S I J R (rk_qi v8 n S I J R True) :=
  CW.of (by decide +kernel) (Nat.le_of_ble_eq_true rfl) (rk_sbs (rk_sbs (rk_sbs rk_sb0))) (b_X10_passes hd hM hf (fun v9 h9 => by cases h9; exact ⟨rfl, rfl, rfl, rfl, rfl, rfl, trivial⟩))
noncomputable def f_X10_told (I : rk_I) (a1 : Int32) (a2 : Int32) : Option (Int32) :=
(f_X10_isSale I a1).bind fun x1 =>
if x1 = 0 then (
some (-5)) else (
if a2 = 0 then (
(rk_rd I 38 24 a1).bind fun x2 =>
some x2) else
if a2 = 1 then (
(rk_rd I 39 24 a1).bind fun x3 =>
some x3) else
if a2 = 2 then (
(rk_rd I 40 24 a1).bind fun x4 =>
some x4) else
if a2 = 3 then (
(rk_rd I 41 24 a1).bind fun x5 =>
some x5) else
if a2 = 4 then (
(rk_rd I 42 24 a1).bind fun x6 =>
some x6) else
if a2 = 5 then (
(rk_rd I 43 24 a1).bind fun x7 =>
some x7) else
if a2 = 6 then (
(rk_rd I 44 24 a1).bind fun x8 =>
some x8) else
if a2 = 7 then (
(rk_rd I 45 24 a1).bind fun x9 =>
some x9) else
if a2 = 8 then (
(rk_rd I 46 24 a1).bind fun x10 =>
some x10) else
if a2 = 9 then (
(f_X10_passes I a1 0).bind fun x11 =>
some x11) else
if a2 = 10 then (
(f_X10_passes I a1 1).bind fun x12 =>
some x12) else
some (-5))
theorem b_X10_told {G : rk_G} {l : Launch} {d kc ks : Nat} {n : Nat} {S : rk_Sh} {I : rk_I} {J : rk_J} {R : rk_R} {Q : rk_Q} {a1 : Int32} {a2 : Int32} {r : Int32} (hd : 4 ≤ d) (hM : rk_LM S R) (hf : f_X10_told I a1 a2 = some r) (hq : ∀ (v9 : Int32), r = v9 → Q (some (.int v9)) n S I J R) :
    AW G l yX10_told cX10_told 3 (some .int) d kc ks 0 [some (.ref 31), some (.int a1), some (.int a2)] [] n S I J R Q := by
  unfold f_X10_told at hf
  refine AW_aload_n0 dX10_told_0 ?_
  refine AW_iload_n1 dX10_told_1 ?_
  replace hf := rk_bd hf
  obtain ⟨x1, e1, hf⟩ := hf
  refine AW_iV1iz (w_X10_isSale (d := 1) (Nat.le_refl _) hM e1) dX10_told_2 kl_X10_141 (hM.1 31 (by decide) (by decide)) rfl (Nat.le_trans (by decide) hd) (by decide) (Nat.le_of_ble_eq_true rfl) (fun _ => ?_)
  refine AW_if_ne 11 dX10_told_5 (by decide) (fun h1 => ?_) (fun h1 => ?_)
  · replace hf := rk_if hf h1
    refine AW_iload_n2 dX10_told_11 ?_
    by_cases h2 : a2 = 0
    · replace hf := rk_it hf h2
      refine AW_tableIn 72 dX10_told_12 (by rw [h2]; decide) (by rw [h2]; decide) (by rw [h2]; rfl) (by decide) ?_
      refine AW_aload_n0 dX10_told_72 ?_
      refine AW_getR dX10_told_73 kf_X10_32 rfl (hM.1 31 (by decide) (by decide)) (by decide) (hM.2 31 11 38 rfl) ?_
      refine AW_iload_n1 dX10_told_76 ?_
      replace hf := rk_bd hf
      obtain ⟨x2, e2, hf⟩ := hf
      refine AW_rd dX10_told_77 (hM.1 38 (by decide) (by decide)) e2 ?_
      exact AW_iret dX10_told_78 rfl (hq _ (Option.some.inj hf).symm)
    replace hf := rk_if hf h2
    by_cases h3 : a2 = 1
    · replace hf := rk_it hf h3
      refine AW_tableIn 79 dX10_told_12 (by rw [h3]; decide) (by rw [h3]; decide) (by rw [h3]; rfl) (by decide) ?_
      refine AW_aload_n0 dX10_told_79 ?_
      refine AW_getR dX10_told_80 kf_X10_35 rfl (hM.1 31 (by decide) (by decide)) (by decide) (hM.2 31 12 39 rfl) ?_
      refine AW_iload_n1 dX10_told_83 ?_
      replace hf := rk_bd hf
      obtain ⟨x3, e3, hf⟩ := hf
      refine AW_rd dX10_told_84 (hM.1 39 (by decide) (by decide)) e3 ?_
      exact AW_iret dX10_told_85 rfl (hq _ (Option.some.inj hf).symm)
    replace hf := rk_if hf h3
    by_cases h4 : a2 = 2
    · replace hf := rk_it hf h4
      refine AW_tableIn 86 dX10_told_12 (by rw [h4]; decide) (by rw [h4]; decide) (by rw [h4]; rfl) (by decide) ?_
      refine AW_aload_n0 dX10_told_86 ?_
      refine AW_getR dX10_told_87 kf_X10_38 rfl (hM.1 31 (by decide) (by decide)) (by decide) (hM.2 31 13 40 rfl) ?_
      refine AW_iload_n1 dX10_told_90 ?_
      replace hf := rk_bd hf
      obtain ⟨x4, e4, hf⟩ := hf
      refine AW_rd dX10_told_91 (hM.1 40 (by decide) (by decide)) e4 ?_
      exact AW_iret dX10_told_92 rfl (hq _ (Option.some.inj hf).symm)
    replace hf := rk_if hf h4
    by_cases h5 : a2 = 3
    · replace hf := rk_it hf h5
      refine AW_tableIn 93 dX10_told_12 (by rw [h5]; decide) (by rw [h5]; decide) (by rw [h5]; rfl) (by decide) ?_
      refine AW_aload_n0 dX10_told_93 ?_
      refine AW_getR dX10_told_94 kf_X10_41 rfl (hM.1 31 (by decide) (by decide)) (by decide) (hM.2 31 14 41 rfl) ?_
      refine AW_iload_n1 dX10_told_97 ?_
      replace hf := rk_bd hf
      obtain ⟨x5, e5, hf⟩ := hf
      refine AW_rd dX10_told_98 (hM.1 41 (by decide) (by decide)) e5 ?_
      exact AW_iret dX10_told_99 rfl (hq _ (Option.some.inj hf).symm)
    replace hf := rk_if hf h5
    by_cases h6 : a2 = 4
    · replace hf := rk_it hf h6
      refine AW_tableIn 100 dX10_told_12 (by rw [h6]; decide) (by rw [h6]; decide) (by rw [h6]; rfl) (by decide) ?_
      refine AW_aload_n0 dX10_told_100 ?_
      refine AW_getR dX10_told_101 kf_X10_44 rfl (hM.1 31 (by decide) (by decide)) (by decide) (hM.2 31 15 42 rfl) ?_
      refine AW_iload_n1 dX10_told_104 ?_
      replace hf := rk_bd hf
      obtain ⟨x6, e6, hf⟩ := hf
      refine AW_rd dX10_told_105 (hM.1 42 (by decide) (by decide)) e6 ?_
      exact AW_iret dX10_told_106 rfl (hq _ (Option.some.inj hf).symm)
    replace hf := rk_if hf h6
    by_cases h7 : a2 = 5
    · replace hf := rk_it hf h7
      refine AW_tableIn 107 dX10_told_12 (by rw [h7]; decide) (by rw [h7]; decide) (by rw [h7]; rfl) (by decide) ?_
      refine AW_aload_n0 dX10_told_107 ?_
      refine AW_getR dX10_told_108 kf_X10_47 rfl (hM.1 31 (by decide) (by decide)) (by decide) (hM.2 31 16 43 rfl) ?_
      refine AW_iload_n1 dX10_told_111 ?_
      replace hf := rk_bd hf
      obtain ⟨x7, e7, hf⟩ := hf
      refine AW_rd dX10_told_112 (hM.1 43 (by decide) (by decide)) e7 ?_
      exact AW_iret dX10_told_113 rfl (hq _ (Option.some.inj hf).symm)
    replace hf := rk_if hf h7
    by_cases h8 : a2 = 6
    · replace hf := rk_it hf h8
      refine AW_tableIn 114 dX10_told_12 (by rw [h8]; decide) (by rw [h8]; decide) (by rw [h8]; rfl) (by decide) ?_
      refine AW_aload_n0 dX10_told_114 ?_
      refine AW_getR dX10_told_115 kf_X10_50 rfl (hM.1 31 (by decide) (by decide)) (by decide) (hM.2 31 17 44 rfl) ?_
      refine AW_iload_n1 dX10_told_118 ?_
      replace hf := rk_bd hf
      obtain ⟨x8, e8, hf⟩ := hf
      refine AW_rd dX10_told_119 (hM.1 44 (by decide) (by decide)) e8 ?_
      exact AW_iret dX10_told_120 rfl (hq _ (Option.some.inj hf).symm)
    replace hf := rk_if hf h8
    by_cases h9 : a2 = 7
    · replace hf := rk_it hf h9
      refine AW_tableIn 121 dX10_told_12 (by rw [h9]; decide) (by rw [h9]; decide) (by rw [h9]; rfl) (by decide) ?_
      refine AW_aload_n0 dX10_told_121 ?_
      refine AW_getR dX10_told_122 kf_X10_53 rfl (hM.1 31 (by decide) (by decide)) (by decide) (hM.2 31 18 45 rfl) ?_
      refine AW_iload_n1 dX10_told_125 ?_
      replace hf := rk_bd hf
      obtain ⟨x9, e9, hf⟩ := hf
      refine AW_rd dX10_told_126 (hM.1 45 (by decide) (by decide)) e9 ?_
      exact AW_iret dX10_told_127 rfl (hq _ (Option.some.inj hf).symm)
    replace hf := rk_if hf h9
    by_cases h10 : a2 = 8
    · replace hf := rk_it hf h10
      refine AW_tableIn 128 dX10_told_12 (by rw [h10]; decide) (by rw [h10]; decide) (by rw [h10]; rfl) (by decide) ?_
      refine AW_aload_n0 dX10_told_128 ?_
      refine AW_getR dX10_told_129 kf_X10_56 rfl (hM.1 31 (by decide) (by decide)) (by decide) (hM.2 31 19 46 rfl) ?_
      refine AW_iload_n1 dX10_told_132 ?_
      replace hf := rk_bd hf
      obtain ⟨x10, e10, hf⟩ := hf
      refine AW_rd dX10_told_133 (hM.1 46 (by decide) (by decide)) e10 ?_
      exact AW_iret dX10_told_134 rfl (hq _ (Option.some.inj hf).symm)
    replace hf := rk_if hf h10
    by_cases h11 : a2 = 9
    · replace hf := rk_it hf h11
      refine AW_tableIn 135 dX10_told_12 (by rw [h11]; decide) (by rw [h11]; decide) (by rw [h11]; rfl) (by decide) ?_
      refine AW_aload_n0 dX10_told_135 ?_
      refine AW_iload_n1 dX10_told_136 ?_
      refine AW_iconst (v := 0) dX10_told_137 (by decide) ?_
      replace hf := rk_bd hf
      obtain ⟨x11, e11, hf⟩ := hf
      refine AW_iV2iz (w_X10_passes (d := 3) (Nat.le_refl _) hM e11) dX10_told_138 kl_X10_157 (hM.1 31 (by decide) (by decide)) rfl (Nat.le_trans (by decide) hd) (by decide) (Nat.le_of_ble_eq_true rfl) (fun _ => ?_)
      exact AW_iret dX10_told_141 rfl (hq _ (Option.some.inj hf).symm)
    replace hf := rk_if hf h11
    by_cases h12 : a2 = 10
    · replace hf := rk_it hf h12
      refine AW_tableIn 142 dX10_told_12 (by rw [h12]; decide) (by rw [h12]; decide) (by rw [h12]; rfl) (by decide) ?_
      refine AW_aload_n0 dX10_told_142 ?_
      refine AW_iload_n1 dX10_told_143 ?_
      refine AW_iconst (v := 1) dX10_told_144 (by decide) ?_
      replace hf := rk_bd hf
      obtain ⟨x12, e12, hf⟩ := hf
      refine AW_iV2iz (w_X10_passes (d := 3) (Nat.le_refl _) hM e12) dX10_told_145 kl_X10_157 (hM.1 31 (by decide) (by decide)) rfl (Nat.le_trans (by decide) hd) (by decide) (Nat.le_of_ble_eq_true rfl) (fun _ => ?_)
      exact AW_iret dX10_told_148 rfl (hq _ (Option.some.inj hf).symm)
    replace hf := rk_if hf h12
    refine AW_tableOut 149 dX10_told_12 (by
    have g_h2 : ¬ (a2).toInt = 0 := fun z => h2 (Int32.toInt_inj.mp z)
    have g_h3 : ¬ (a2).toInt = 1 := fun z => h3 (Int32.toInt_inj.mp z)
    have g_h4 : ¬ (a2).toInt = 2 := fun z => h4 (Int32.toInt_inj.mp z)
    have g_h5 : ¬ (a2).toInt = 3 := fun z => h5 (Int32.toInt_inj.mp z)
    have g_h6 : ¬ (a2).toInt = 4 := fun z => h6 (Int32.toInt_inj.mp z)
    have g_h7 : ¬ (a2).toInt = 5 := fun z => h7 (Int32.toInt_inj.mp z)
    have g_h8 : ¬ (a2).toInt = 6 := fun z => h8 (Int32.toInt_inj.mp z)
    have g_h9 : ¬ (a2).toInt = 7 := fun z => h9 (Int32.toInt_inj.mp z)
    have g_h10 : ¬ (a2).toInt = 8 := fun z => h10 (Int32.toInt_inj.mp z)
    have g_h11 : ¬ (a2).toInt = 9 := fun z => h11 (Int32.toInt_inj.mp z)
    have g_h12 : ¬ (a2).toInt = 10 := fun z => h12 (Int32.toInt_inj.mp z)
    omega) (by decide) ?_
    refine AW_bipush (v := (-5)) dX10_told_149 (by decide) ?_
    exact AW_iret dX10_told_151 rfl (hq _ (Option.some.inj hf).symm)
  · replace hf := rk_it hf h1
    refine AW_bipush (v := (-5)) dX10_told_8 (by decide) ?_
    exact AW_iret dX10_told_10 rfl (hq _ (Option.some.inj hf).symm)
theorem w_X10_told {G : rk_G} {l : Launch} {d : Nat} {n : Nat} {S : rk_Sh} {I : rk_I} {J : rk_J} {R : rk_R} {a1 : Int32} {a2 : Int32} {v8 : Int32} (hd : 4 ≤ d) (hM : rk_LM S R) (hf : f_X10_told I a1 a2 = some v8) :
    CW G l yX10_told cX10_told 3 (some .int) d 0 0 [.ref 31, .int a1, .int a2] n S I J R (rk_qi v8 n S I J R True) :=
  CW.of (by decide +kernel) (Nat.le_of_ble_eq_true rfl) (rk_sbs (rk_sbs (rk_sbs rk_sb0))) (b_X10_told hd hM hf (fun v9 h9 => by cases h9; exact ⟨rfl, rfl, rfl, rfl, rfl, rfl, trivial⟩))
noncomputable def f_J7_fill_53178_13_l5 (I : rk_I) (u1 : Int32) (s2 : Int32) : Option ((Int32 × rk_I) ⊕ (Int32 × rk_I)) :=
if 10 ≤ s2 then (
some (.inr (s2, I))) else (
(rk_wr I 13 10 s2 u1).bind fun I1 =>
some (.inl ((s2 + 1), I1)))
theorem b_J7_fill_53178_13_l5 {G : rk_G} {l : Launch} {d kc ks : Nat} {n : Nat} {S : rk_Sh} {I : rk_I} {J : rk_J} {R : rk_R} {Q : rk_Q} {u1 : Int32} {s2 : Int32} {r : (Int32 × rk_I) ⊕ (Int32 × rk_I)} (hL : rk_LC S R) (hf : f_J7_fill_53178_13_l5 I u1 s2 = some r) (hc : ∀ (w0 : Int32) (I9 : rk_I), r = .inl (w0, I9) → AW G l yJ7_fill_53178 cJ7_fill_53178 4 none d kc ks 5 [some (.ref 13), some (.int u1), some (.int w0), some (.int 10)] [] n S I9 J R Q) (he : ∀ (w0 : Int32) (I9 : rk_I), r = .inr (w0, I9) → AW G l yJ7_fill_53178 cJ7_fill_53178 4 none d kc ks 20 [some (.ref 13), some (.int u1), some (.int w0), some (.int 10)] [] n S I9 J R Q) :
    AW G l yJ7_fill_53178 cJ7_fill_53178 4 none d kc ks 5 [some (.ref 13), some (.int u1), some (.int s2), some (.int 10)] [] n S I J R Q := by
  unfold f_J7_fill_53178_13_l5 at hf
  refine AW_iload_n2 dJ7_fill_53178_5 ?_
  refine AW_iload_n3 dJ7_fill_53178_6 ?_
  refine AW_icmp_ge 20 dJ7_fill_53178_7 (by decide) (fun h1 => ?_) (fun h1 => ?_)
  · replace hf := rk_it hf h1
    refine AW_sb (rk_sbs (rk_sbs (rk_sbs (rk_sbs rk_sb0)))) ?_
    exact he _ _ (Option.some.inj hf).symm
  · replace hf := rk_if hf h1
    refine AW_aload_n0 dJ7_fill_53178_10 ?_
    refine AW_iload_n2 dJ7_fill_53178_11 ?_
    refine AW_iload_n1 dJ7_fill_53178_12 ?_
    replace hf := rk_bd hf
    obtain ⟨I1, e1, hf⟩ := hf
    refine AW_wr dJ7_fill_53178_13 (hL.1 13 (by decide)) e1 ?_
    refine AW_iinc_2 (v := 1) dJ7_fill_53178_14 (by decide) (by decide) rfl ?_
    refine AW_goto 5 dJ7_fill_53178_17 (by decide) ?_
    refine AW_sb (rk_sbs (rk_sbs (rk_sbs (rk_sbs rk_sb0)))) ?_
    exact hc _ _ (Option.some.inj hf).symm
theorem L_J7_fill_53178_13_w5 {G : rk_G} {l : Launch} {d kc ks : Nat} {n : Nat} {S : rk_Sh} {J : rk_J} {R : rk_R} {Q : rk_Q} {u1 : Int32} {r : Int32 × rk_I} (hL : rk_LC S R) (he : ∀ (w0 : Int32) (I9 : rk_I), r = (w0, I9) → AW G l yJ7_fill_53178 cJ7_fill_53178 4 none d kc ks 20 [some (.ref 13), some (.int u1), some (.int w0), some (.int 10)] [] n S I9 J R Q) :
    ∀ (m9 : Nat) (s2 : Int32) (I : rk_I), rk_loop (fun a9 => f_J7_fill_53178_13_l5 a9.2 u1 a9.1) m9 (s2, I) = some r → AW G l yJ7_fill_53178 cJ7_fill_53178 4 none d kc ks 5 [some (.ref 13), some (.int u1), some (.int s2), some (.int 10)] [] n S I J R Q := by
  intro m9
  induction m9 with
  | zero => intro s2 I hf; cases hf
  | succ m9 ih =>
    intro s2 I hf 
    obtain ⟨r9, hf, hr⟩ := rk_loop_s hf
    exact b_J7_fill_53178_13_l5 hL hf (fun _ _ h9 => by subst h9; exact ih _ _ hr) (fun _ _ h9 => by subst h9; exact he _ _ hr.symm)
noncomputable def f_J7_fill_53178_13 (I : rk_I) (a1 : Int32) : Option (rk_I) :=
rk_b2 (rk_while (fun a9 => f_J7_fill_53178_13_l5 a9.2 a1 a9.1) (0, I)) fun x1 I1 =>
some I1
theorem b_J7_fill_53178_13 {G : rk_G} {l : Launch} {d kc ks : Nat} {n : Nat} {S : rk_Sh} {I : rk_I} {J : rk_J} {R : rk_R} {Q : rk_Q} {a1 : Int32} {r : rk_I} (hL : rk_LC S R) (hf : f_J7_fill_53178_13 I a1 = some r) (hq : ∀ (I9 : rk_I), r = I9 → Q (none) n S I9 J R) :
    AW G l yJ7_fill_53178 cJ7_fill_53178 4 none d kc ks 0 [some (.ref 13), some (.int a1), none, none] [] n S I J R Q := by
  unfold f_J7_fill_53178_13 at hf
  refine AW_iconst (v := 0) dJ7_fill_53178_0 (by decide) ?_
  refine AW_istore_n2 dJ7_fill_53178_1 (by decide) rfl ?_
  refine AW_aload_n0 dJ7_fill_53178_2 ?_
  refine AW_alen (v := 10) dJ7_fill_53178_3 (hL.1 13 (by decide)) rfl (by decide) ?_
  refine AW_istore_n3 dJ7_fill_53178_4 (by decide) rfl ?_
  refine AW_sb (rk_sbs (rk_sbs (rk_sbs (rk_sbs rk_sb0)))) ?_
  replace hf := rk_bd2 hf
  obtain ⟨x1, I1, e1, hf⟩ := hf
  obtain ⟨m1, e1⟩ := rk_while_sp e1
  refine L_J7_fill_53178_13_w5 hL ?_ m1 _ _ e1
  intro x1 I1 h9
  cases h9
  exact AW_vret dJ7_fill_53178_20 rfl (hq _ (Option.some.inj hf).symm)
theorem w_J7_fill_53178_13 {G : rk_G} {l : Launch} {d : Nat} {n : Nat} {S : rk_Sh} {I : rk_I} {J : rk_J} {R : rk_R} {a1 : Int32} {I8 : rk_I} (hL : rk_LC S R) (hf : f_J7_fill_53178_13 I a1 = some I8) :
    CW G l yJ7_fill_53178 cJ7_fill_53178 4 none d 0 0 [.ref 13, .int a1] n S I J R (rk_qv n S I8 J R True) :=
  CW.of (by decide +kernel) (Nat.le_of_ble_eq_true rfl) (rk_sbs (rk_sbs (rk_sbe (rk_sbe rk_sb0)))) (b_J7_fill_53178_13 hL hf (fun I9 h9 => by cases h9; exact ⟨rfl, rfl, rfl, rfl, rfl, rfl, trivial⟩))
noncomputable def f_X5_passHour (S : rk_Sh) (I : rk_I) (R : rk_R) (a0 : Nat) (a1 : Int32) : Option (Int32) :=
if a1 = 0 then (
(f_X5_thingHour S I R a0).bind fun x2 =>
some x2) else (
(f_X5_lossHour S I R a0).bind fun x1 =>
some x1)
theorem b_X5_passHour {G : rk_G} {l : Launch} {d kc ks : Nat} {n : Nat} {S : rk_Sh} {I : rk_I} {J : rk_J} {R : rk_R} {Q : rk_Q} {a0 : Nat} {a1 : Int32} {r : Int32} (hd : 3 ≤ d) (hS_a0 : S a0 = (5, 11)) (hf : f_X5_passHour S I R a0 a1 = some r) (hq : ∀ (v9 : Int32), r = v9 → Q (some (.int v9)) n S I J R) :
    AW G l yX5_passHour cX5_passHour 2 (some .int) d kc ks 0 [some (.ref a0), some (.int a1)] [] n S I J R Q := by
  unfold f_X5_passHour at hf
  refine AW_iload_n1 dX5_passHour_0 ?_
  refine AW_if_ne 11 dX5_passHour_1 (by decide) (fun h1 => ?_) (fun h1 => ?_)
  · replace hf := rk_if hf h1
    refine AW_aload_n0 dX5_passHour_11 ?_
    replace hf := rk_bd hf
    obtain ⟨x1, e1, hf⟩ := hf
    refine AW_iV0iz (w_X5_lossHour (d := 2) (Nat.le_refl _) hS_a0 e1) dX5_passHour_12 kl_X5_44 hS_a0 rfl (Nat.le_trans (by decide) hd) (by decide) (Nat.le_of_ble_eq_true rfl) (fun _ => ?_)
    exact AW_iret dX5_passHour_15 rfl (hq _ (Option.some.inj hf).symm)
  · replace hf := rk_it hf h1
    refine AW_aload_n0 dX5_passHour_4 ?_
    replace hf := rk_bd hf
    obtain ⟨x2, e2, hf⟩ := hf
    refine AW_iV0iz (w_X5_thingHour (d := 2) (Nat.le_refl _) hS_a0 e2) dX5_passHour_5 kl_X5_40 hS_a0 rfl (Nat.le_trans (by decide) hd) (by decide) (Nat.le_of_ble_eq_true rfl) (fun _ => ?_)
    refine AW_goto 15 dX5_passHour_8 (by decide) ?_
    exact AW_iret dX5_passHour_15 rfl (hq _ (Option.some.inj hf).symm)
theorem w_X5_passHour {G : rk_G} {l : Launch} {d : Nat} {n : Nat} {S : rk_Sh} {I : rk_I} {J : rk_J} {R : rk_R} {a0 : Nat} {a1 : Int32} {v8 : Int32} (hd : 3 ≤ d) (hS_a0 : S a0 = (5, 11)) (hf : f_X5_passHour S I R a0 a1 = some v8) :
    CW G l yX5_passHour cX5_passHour 2 (some .int) d 0 0 [.ref a0, .int a1] n S I J R (rk_qi v8 n S I J R True) :=
  CW.of (by decide +kernel) (Nat.le_of_ble_eq_true rfl) (rk_sbs (rk_sbs rk_sb0)) (b_X5_passHour hd hS_a0 hf (fun v9 h9 => by cases h9; exact ⟨rfl, rfl, rfl, rfl, rfl, rfl, trivial⟩))
noncomputable def f_X1_enter_l5 (S : rk_Sh) (I : rk_I) (R : rk_R) (u1 : Nat) (u2 : Int32) (s3 : Int32) : Option ((Int32 × rk_I × rk_R) ⊕ (Int32 × rk_I × rk_R)) :=
if s3 ≤ 0 then (
some (.inr (s3, I, R))) else (
(rk_rd I 15 24 (s3 - 1)).bind fun x1 =>
if x1 ≤ u2 then (
some (.inr (s3, I, R))) else (
(rk_rd I 15 24 (s3 - 1)).bind fun x2 =>
(rk_wr I 15 24 s3 x2).bind fun I1 =>
(rk_rdR R 14 24 (s3 - 1)).bind fun q1 =>
(rk_dr S 5 11 q1).bind fun o1 =>
(rk_wrR R 14 24 s3 o1).bind fun R1 =>
some (.inl ((s3 + (-1)), I1, R1))))
theorem b_X1_enter_l5 {G : rk_G} {l : Launch} {d kc ks : Nat} {n : Nat} {S : rk_Sh} {I : rk_I} {J : rk_J} {R : rk_R} {Q : rk_Q} {u1 : Nat} {u2 : Int32} {s3 : Int32} {r : (Int32 × rk_I × rk_R) ⊕ (Int32 × rk_I × rk_R)} (hS_u1 : S u1 = (5, 11)) (hL : rk_LC S R) (hf : f_X1_enter_l5 S I R u1 u2 s3 = some r) (hc : ∀ (w0 : Int32) (I9 : rk_I) (R9 : rk_R), r = .inl (w0, I9, R9) → rk_LC S R9 → AW G l yX1_enter cX1_enter 4 none d kc ks 5 [some (.ref 12), some (.ref u1), some (.int u2), some (.int w0)] [] n S I9 J R9 Q) (he : ∀ (w0 : Int32) (I9 : rk_I) (R9 : rk_R), r = .inr (w0, I9, R9) → rk_LC S R9 → AW G l yX1_enter cX1_enter 4 none d kc ks 55 [some (.ref 12), some (.ref u1), some (.int u2), some (.int w0)] [] n S I9 J R9 Q) :
    AW G l yX1_enter cX1_enter 4 none d kc ks 5 [some (.ref 12), some (.ref u1), some (.int u2), some (.int s3)] [] n S I J R Q := by
  unfold f_X1_enter_l5 at hf
  refine AW_iload_n3 dX1_enter_5 ?_
  refine AW_if_le 55 dX1_enter_6 (by decide) (fun h1 => ?_) (fun h1 => ?_)
  · replace hf := rk_it hf h1
    refine AW_sb (rk_sbs (rk_sbs (rk_sbs (rk_sbs rk_sb0)))) ?_
    exact he _ _ _ (Option.some.inj hf).symm hL
  · replace hf := rk_if hf h1
    refine AW_aload_n0 dX1_enter_9 ?_
    refine AW_getR dX1_enter_10 kf_X1_21 rfl (hL.1 12 (by decide)) (by decide) (hL.2 12 2 15 rfl) ?_
    refine AW_iload_n3 dX1_enter_13 ?_
    refine AW_iconst (v := 1) dX1_enter_14 (by decide) ?_
    refine AW_isub dX1_enter_15 ?_
    replace hf := rk_bd hf
    obtain ⟨x1, e1, hf⟩ := hf
    refine AW_rd dX1_enter_16 (hL.1 15 (by decide)) e1 ?_
    refine AW_iload_n2 dX1_enter_17 ?_
    refine AW_icmp_le 55 dX1_enter_18 (by decide) (fun h2 => ?_) (fun h2 => ?_)
    · replace hf := rk_it hf h2
      refine AW_sb (rk_sbs (rk_sbs (rk_sbs (rk_sbs rk_sb0)))) ?_
      exact he _ _ _ (Option.some.inj hf).symm hL
    · replace hf := rk_if hf h2
      refine AW_aload_n0 dX1_enter_21 ?_
      refine AW_getR dX1_enter_22 kf_X1_21 rfl (hL.1 12 (by decide)) (by decide) (hL.2 12 2 15 rfl) ?_
      refine AW_iload_n3 dX1_enter_25 ?_
      refine AW_aload_n0 dX1_enter_26 ?_
      refine AW_getR dX1_enter_27 kf_X1_21 rfl (hL.1 12 (by decide)) (by decide) (hL.2 12 2 15 rfl) ?_
      refine AW_iload_n3 dX1_enter_30 ?_
      refine AW_iconst (v := 1) dX1_enter_31 (by decide) ?_
      refine AW_isub dX1_enter_32 ?_
      replace hf := rk_bd hf
      obtain ⟨x2, e2, hf⟩ := hf
      refine AW_rd dX1_enter_33 (hL.1 15 (by decide)) e2 ?_
      replace hf := rk_bd hf
      obtain ⟨I1, e3, hf⟩ := hf
      refine AW_wr dX1_enter_34 (hL.1 15 (by decide)) e3 ?_
      refine AW_aload_n0 dX1_enter_35 ?_
      refine AW_getR dX1_enter_36 kf_X1_17 rfl (hL.1 12 (by decide)) (by decide) (hL.2 12 1 14 rfl) ?_
      refine AW_iload_n3 dX1_enter_39 ?_
      refine AW_aload_n0 dX1_enter_40 ?_
      refine AW_getR dX1_enter_41 kf_X1_17 rfl (hL.1 12 (by decide)) (by decide) (hL.2 12 1 14 rfl) ?_
      refine AW_iload_n3 dX1_enter_44 ?_
      refine AW_iconst (v := 1) dX1_enter_45 (by decide) ?_
      refine AW_isub dX1_enter_46 ?_
      replace hf := rk_bd hf
      obtain ⟨q1, e4, hf⟩ := hf
      refine AW_rdR dX1_enter_47 (hL.1 14 (by decide)) (by decide) e4 ?_
      replace hf := rk_bd hf
      obtain ⟨o1, e5, hf⟩ := hf
      obtain ⟨e5, hS1⟩ := rk_dr_sp e5
      subst e5
      replace hf := rk_bd hf
      obtain ⟨R1, e6, hf⟩ := hf
      refine AW_wrR dX1_enter_48 (hL.1 14 (by decide)) (Or.inr (Or.inl rfl)) hS1 e6 ?_
      have hL1 := rk_LC_wr hL e6 (fun _ => rfl)
      refine AW_iinc_3 (v := (-1)) dX1_enter_49 (by decide) (by decide) rfl ?_
      refine AW_goto 5 dX1_enter_52 (by decide) ?_
      refine AW_sb (rk_sbs (rk_sbs (rk_sbs (rk_sbs rk_sb0)))) ?_
      exact hc _ _ _ (Option.some.inj hf).symm hL1
theorem L_X1_enter_w5 {G : rk_G} {l : Launch} {d kc ks : Nat} {n : Nat} {S : rk_Sh} {J : rk_J} {Q : rk_Q} {u1 : Nat} {u2 : Int32} {r : Int32 × rk_I × rk_R} (hS_u1 : S u1 = (5, 11)) (he : ∀ (w0 : Int32) (I9 : rk_I) (R9 : rk_R), r = (w0, I9, R9) → rk_LC S R9 → AW G l yX1_enter cX1_enter 4 none d kc ks 55 [some (.ref 12), some (.ref u1), some (.int u2), some (.int w0)] [] n S I9 J R9 Q) :
    ∀ (m9 : Nat) (s3 : Int32) (I : rk_I) (R : rk_R), rk_loop (fun a9 => f_X1_enter_l5 S a9.2.1 a9.2.2 u1 u2 a9.1) m9 (s3, I, R) = some r → rk_LC S R → AW G l yX1_enter cX1_enter 4 none d kc ks 5 [some (.ref 12), some (.ref u1), some (.int u2), some (.int s3)] [] n S I J R Q := by
  intro m9
  induction m9 with
  | zero => intro s3 I R hf; cases hf
  | succ m9 ih =>
    intro s3 I R hf hL
    obtain ⟨r9, hf, hr⟩ := rk_loop_s hf
    exact b_X1_enter_l5 hS_u1 hL hf (fun _ _ _ h9 hl9 => by subst h9; exact ih _ _ _ hr hl9) (fun _ _ _ h9 hl9 => by subst h9; exact he _ _ _ hr.symm hl9)
noncomputable def f_X1_enter_j55 (S : rk_Sh) (I : rk_I) (R : rk_R) (j1 : Nat) (j2 : Int32) (j3 : Int32) : Option (rk_I × rk_R) :=
(rk_wr I 15 24 j3 j2).bind fun I1 =>
(rk_wrR R 14 24 j3 j1).bind fun R1 =>
(some (rk_ui I1 12 3 ((I1 12 3) + 1))).bind fun I2 =>
some (I2, R1)
theorem b_X1_enter_j55 {G : rk_G} {l : Launch} {d kc ks : Nat} {n : Nat} {S : rk_Sh} {I : rk_I} {J : rk_J} {R : rk_R} {Q : rk_Q} {j1 : Nat} {j2 : Int32} {j3 : Int32} {r : rk_I × rk_R} (hS_j1 : S j1 = (5, 11)) (hL : rk_LC S R) (hf : f_X1_enter_j55 S I R j1 j2 j3 = some r) (hq : ∀ (I9 : rk_I) (R9 : rk_R), r = (I9, R9) → rk_LC S R9 → Q (none) n S I9 J R9) :
    AW G l yX1_enter cX1_enter 4 none d kc ks 55 [some (.ref 12), some (.ref j1), some (.int j2), some (.int j3)] [] n S I J R Q := by
  unfold f_X1_enter_j55 at hf
  refine AW_aload_n0 dX1_enter_55 ?_
  refine AW_getR dX1_enter_56 kf_X1_21 rfl (hL.1 12 (by decide)) (by decide) (hL.2 12 2 15 rfl) ?_
  refine AW_iload_n3 dX1_enter_59 ?_
  refine AW_iload_n2 dX1_enter_60 ?_
  replace hf := rk_bd hf
  obtain ⟨I1, e1, hf⟩ := hf
  refine AW_wr dX1_enter_61 (hL.1 15 (by decide)) e1 ?_
  refine AW_aload_n0 dX1_enter_62 ?_
  refine AW_getR dX1_enter_63 kf_X1_17 rfl (hL.1 12 (by decide)) (by decide) (hL.2 12 1 14 rfl) ?_
  refine AW_iload_n3 dX1_enter_66 ?_
  refine AW_aload_n1 dX1_enter_67 ?_
  replace hf := rk_bd hf
  obtain ⟨R1, e2, hf⟩ := hf
  refine AW_wrR dX1_enter_68 (hL.1 14 (by decide)) (Or.inr (Or.inl rfl)) hS_j1 e2 ?_
  have hL1 := rk_LC_wr hL e2 (fun _ => rfl)
  refine AW_aload_n0 dX1_enter_69 ?_
  refine AW_dup dX1_enter_70 rfl ?_
  refine AW_getI dX1_enter_71 kf_X1_24 rfl (hL1.1 12 (by decide)) (by decide) ?_
  refine AW_iconst (v := 1) dX1_enter_74 (by decide) ?_
  refine AW_iadd dX1_enter_75 ?_
  replace hf := rk_bd hf
  obtain ⟨I2, e3, hf⟩ := hf
  refine AW_puI dX1_enter_76 kf_X1_24 rfl (hL1.1 12 (by decide)) (by decide) e3 ?_
  exact AW_vret dX1_enter_79 rfl (hq _ _ (Option.some.inj hf).symm hL1)
noncomputable def f_X1_enter (S : rk_Sh) (I : rk_I) (R : rk_R) (a1 : Nat) (a2 : Int32) : Option (rk_I × rk_R) :=
rk_b3 (rk_while (fun a9 => f_X1_enter_l5 S a9.2.1 a9.2.2 a1 a2 a9.1) ((I 12 3), I, R)) fun x1 I1 R1 =>
f_X1_enter_j55 S I1 R1 a1 a2 x1
theorem b_X1_enter {G : rk_G} {l : Launch} {d kc ks : Nat} {n : Nat} {S : rk_Sh} {I : rk_I} {J : rk_J} {R : rk_R} {Q : rk_Q} {a1 : Nat} {a2 : Int32} {r : rk_I × rk_R} (hS_a1 : S a1 = (5, 11)) (hL : rk_LC S R) (hf : f_X1_enter S I R a1 a2 = some r) (hq : ∀ (I9 : rk_I) (R9 : rk_R), r = (I9, R9) → rk_LC S R9 → Q (none) n S I9 J R9) :
    AW G l yX1_enter cX1_enter 4 none d kc ks 0 [some (.ref 12), some (.ref a1), some (.int a2), none] [] n S I J R Q := by
  unfold f_X1_enter at hf
  refine AW_aload_n0 dX1_enter_0 ?_
  refine AW_getI dX1_enter_1 kf_X1_24 rfl (hL.1 12 (by decide)) (by decide) ?_
  refine AW_istore_n3 dX1_enter_4 (by decide) rfl ?_
  refine AW_sb (rk_sbs (rk_sbs (rk_sbs (rk_sbs rk_sb0)))) ?_
  replace hf := rk_bd3 hf
  obtain ⟨x1, I1, R1, e1, hf⟩ := hf
  obtain ⟨m1, e1⟩ := rk_while_sp e1
  refine L_X1_enter_w5 hS_a1 ?_ m1 _ _ _ e1 hL
  intro x1 I1 R1 h9 hL1
  cases h9
  refine AW_sb (rk_sbs (rk_sbs (rk_sbs (rk_sbs rk_sb0)))) ?_
  exact b_X1_enter_j55 hS_a1 hL1 hf hq
theorem w_X1_enter {G : rk_G} {l : Launch} {d : Nat} {n : Nat} {S : rk_Sh} {I : rk_I} {J : rk_J} {R : rk_R} {a1 : Nat} {a2 : Int32} {I8 : rk_I} {R8 : rk_R} (hS_a1 : S a1 = (5, 11)) (hL : rk_LC S R) (hf : f_X1_enter S I R a1 a2 = some (I8, R8)) :
    CW G l yX1_enter cX1_enter 4 none d 0 0 [.ref 12, .ref a1, .int a2] n S I J R (rk_qv n S I8 J R8 (rk_LC S R8)) :=
  CW.of (by decide +kernel) (Nat.le_of_ble_eq_true rfl) (rk_sbs (rk_sbs (rk_sbs (rk_sbe rk_sb0)))) (b_X1_enter hS_a1 hL hf (fun I9 R9 h9 hl9 => by cases h9; exact ⟨rfl, rfl, rfl, rfl, rfl, rfl, hl9⟩))
noncomputable def f_X1_open_l34 (S : rk_Sh) (I : rk_I) (R : rk_R) (u1 : Nat) (u3 : Int32) (u4 : Int32) (s5 : Int32) : Option ((Int32 × rk_I × rk_R) ⊕ (Int32 × rk_I × rk_R)) :=
if u3 ≤ s5 then (
some (.inr (s5, I, R))) else (
(rk_rdR R 2 24 s5).bind fun q1 =>
(rk_dr S 5 11 q1).bind fun o1 =>
(some (R o1 1)).bind fun q2 =>
(rk_dr S 0 5 q2).bind fun o2 =>
if o2 = u1 then (
(f_X5_passHour S I R o1 u4).bind fun x1 =>
rk_b2 (f_X1_enter S I R o1 x1) fun I1 R1 =>
some (.inl ((s5 + 1), I1, R1))) else (
some (.inl ((s5 + 1), I, R))))
theorem b_X1_open_l34 {G : rk_G} {l : Launch} {d kc ks : Nat} {n : Nat} {S : rk_Sh} {I : rk_I} {J : rk_J} {R : rk_R} {Q : rk_Q} {u1 : Nat} {u3 : Int32} {u4 : Int32} {s5 : Int32} {r : (Int32 × rk_I × rk_R) ⊕ (Int32 × rk_I × rk_R)} (hd : 4 ≤ d) (hS_u1 : S u1 = (0, 5)) (hL : rk_LC S R) (hf : f_X1_open_l34 S I R u1 u3 u4 s5 = some r) (hc : ∀ (w0 : Int32) (I9 : rk_I) (R9 : rk_R), r = .inl (w0, I9, R9) → rk_LC S R9 → AW G l yX1_open cX1_open 6 none d kc ks 34 [some (.ref 12), some (.ref u1), some (.ref 2), some (.int u3), some (.int u4), some (.int w0)] [] n S I9 J R9 Q) (he : ∀ (w0 : Int32) (I9 : rk_I) (R9 : rk_R), r = .inr (w0, I9, R9) → rk_LC S R9 → AW G l yX1_open cX1_open 6 none d kc ks 74 [some (.ref 12), some (.ref u1), some (.ref 2), some (.int u3), some (.int u4), some (.int w0)] [] n S I9 J R9 Q) :
    AW G l yX1_open cX1_open 6 none d kc ks 34 [some (.ref 12), some (.ref u1), some (.ref 2), some (.int u3), some (.int u4), some (.int s5)] [] n S I J R Q := by
  unfold f_X1_open_l34 at hf
  refine AW_iload_5 dX1_open_34 ?_
  refine AW_iload_n3 dX1_open_36 ?_
  refine AW_icmp_ge 74 dX1_open_37 (by decide) (fun h1 => ?_) (fun h1 => ?_)
  · replace hf := rk_it hf h1
    refine AW_sb (rk_sbs (rk_sbs (rk_sbs (rk_sbs (rk_sbs (rk_sbs rk_sb0)))))) ?_
    exact he _ _ _ (Option.some.inj hf).symm hL
  · replace hf := rk_if hf h1
    refine AW_aload_n2 dX1_open_40 ?_
    refine AW_iload_5 dX1_open_41 ?_
    replace hf := rk_bd hf
    obtain ⟨q1, e1, hf⟩ := hf
    refine AW_rdR dX1_open_43 (hL.1 2 (by decide)) (by decide) e1 ?_
    replace hf := rk_bd hf
    obtain ⟨o1, e2, hf⟩ := hf
    obtain ⟨e2, hS1⟩ := rk_dr_sp e2
    subst e2
    replace hf := rk_bd hf
    obtain ⟨q2, e3, hf⟩ := hf
    refine AW_getQ dX1_open_44 kf_X1_45 rfl hS1 (by decide) e3 ?_
    refine AW_aload_n1 dX1_open_47 ?_
    replace hf := rk_bd hf
    obtain ⟨o2, e4, hf⟩ := hf
    obtain ⟨e4, hS2⟩ := rk_dr_sp e4
    subst e4
    refine AW_acmS_ne 68 dX1_open_48 (by decide) hS2 (by decide) hS_u1 (by decide) (fun h2 => ?_) (fun h2 => ?_)
    · replace hf := rk_if hf h2
      refine AW_iinc_5 (v := 1) dX1_open_68 (by decide) (by decide) rfl ?_
      refine AW_goto 34 dX1_open_71 (by decide) ?_
      refine AW_sb (rk_sbs (rk_sbs (rk_sbs (rk_sbs (rk_sbs (rk_sbs rk_sb0)))))) ?_
      exact hc _ _ _ (Option.some.inj hf).symm hL
    · replace hf := rk_it hf h2
      refine AW_aload_n0 dX1_open_51 ?_
      refine AW_aload_n2 dX1_open_52 ?_
      refine AW_iload_5 dX1_open_53 ?_
      refine AW_rdR (q := (some o1)) dX1_open_55 (hL.1 2 (by decide)) (by decide) e1 ?_
      refine AW_aload_n2 dX1_open_56 ?_
      refine AW_iload_5 dX1_open_57 ?_
      refine AW_rdR (q := (some o1)) dX1_open_59 (hL.1 2 (by decide)) (by decide) e1 ?_
      refine AW_iload_4 dX1_open_60 ?_
      replace hf := rk_bd hf
      obtain ⟨x1, e5, hf⟩ := hf
      refine AW_iV1iz (w_X5_passHour (d := 3) (Nat.le_refl _) hS1 e5) dX1_open_62 kl_X1_49 hS1 rfl (Nat.le_trans (by decide) hd) (by decide) (Nat.le_of_ble_eq_true rfl) (fun _ => ?_)
      replace hf := rk_bd2 hf
      obtain ⟨I1, R1, e6, hf⟩ := hf
      refine AW_iV2vz (w_X1_enter (d := 0) hS1 hL e6) dX1_open_65 kl_X1_53 (hL.1 12 (by decide)) rfl (Nat.le_trans (by decide) hd) (by decide) (Nat.le_of_ble_eq_true rfl) (fun hL1 => ?_)
      refine AW_iinc_5 (v := 1) dX1_open_68 (by decide) (by decide) rfl ?_
      refine AW_goto 34 dX1_open_71 (by decide) ?_
      refine AW_sb (rk_sbs (rk_sbs (rk_sbs (rk_sbs (rk_sbs (rk_sbs rk_sb0)))))) ?_
      exact hc _ _ _ (Option.some.inj hf).symm hL1
theorem L_X1_open_w34 {G : rk_G} {l : Launch} {d kc ks : Nat} {n : Nat} {S : rk_Sh} {J : rk_J} {Q : rk_Q} {u1 : Nat} {u3 : Int32} {u4 : Int32} {r : Int32 × rk_I × rk_R} (hd : 4 ≤ d) (hS_u1 : S u1 = (0, 5)) (he : ∀ (w0 : Int32) (I9 : rk_I) (R9 : rk_R), r = (w0, I9, R9) → rk_LC S R9 → AW G l yX1_open cX1_open 6 none d kc ks 74 [some (.ref 12), some (.ref u1), some (.ref 2), some (.int u3), some (.int u4), some (.int w0)] [] n S I9 J R9 Q) :
    ∀ (m9 : Nat) (s5 : Int32) (I : rk_I) (R : rk_R), rk_loop (fun a9 => f_X1_open_l34 S a9.2.1 a9.2.2 u1 u3 u4 a9.1) m9 (s5, I, R) = some r → rk_LC S R → AW G l yX1_open cX1_open 6 none d kc ks 34 [some (.ref 12), some (.ref u1), some (.ref 2), some (.int u3), some (.int u4), some (.int s5)] [] n S I J R Q := by
  intro m9
  induction m9 with
  | zero => intro s5 I R hf; cases hf
  | succ m9 ih =>
    intro s5 I R hf hL
    obtain ⟨r9, hf, hr⟩ := rk_loop_s hf
    exact b_X1_open_l34 hd hS_u1 hL hf (fun _ _ _ h9 hl9 => by subst h9; exact ih _ _ _ hr hl9) (fun _ _ _ h9 hl9 => by subst h9; exact he _ _ _ hr.symm hl9)
noncomputable def f_X1_open (S : rk_Sh) (I : rk_I) (R : rk_R) (a1 : Nat) (a3 : Int32) (a4 : Int32) : Option (rk_I × rk_R) :=
(some (rk_ui I 12 3 0)).bind fun I1 =>
(some (rk_ui I1 12 4 0)).bind fun I2 =>
(f_J7_fill_53178_13 I2 0).bind fun I3 =>
(rk_wr I3 13 10 (I3 a1 2) (I3 a1 1)).bind fun I4 =>
rk_b3 (rk_while (fun a9 => f_X1_open_l34 S a9.2.1 a9.2.2 a1 a3 a4 a9.1) (0, I4, R)) fun x1 I5 R1 =>
some (I5, R1)
theorem b_X1_open {G : rk_G} {l : Launch} {d kc ks : Nat} {n : Nat} {S : rk_Sh} {I : rk_I} {J : rk_J} {R : rk_R} {Q : rk_Q} {a1 : Nat} {a3 : Int32} {a4 : Int32} {r : rk_I × rk_R} (hd : 4 ≤ d) (hS_a1 : S a1 = (0, 5)) (hL : rk_LC S R) (hf : f_X1_open S I R a1 a3 a4 = some r) (hq : ∀ (I9 : rk_I) (R9 : rk_R), r = (I9, R9) → rk_LC S R9 → Q (none) n S I9 J R9) :
    AW G l yX1_open cX1_open 6 none d kc ks 0 [some (.ref 12), some (.ref a1), some (.ref 2), some (.int a3), some (.int a4), none] [] n S I J R Q := by
  unfold f_X1_open at hf
  refine AW_aload_n0 dX1_open_0 ?_
  refine AW_iconst (v := 0) dX1_open_1 (by decide) ?_
  replace hf := rk_bd hf
  obtain ⟨I1, e1, hf⟩ := hf
  refine AW_puI dX1_open_2 kf_X1_24 rfl (hL.1 12 (by decide)) (by decide) e1 ?_
  refine AW_aload_n0 dX1_open_5 ?_
  refine AW_iconst (v := 0) dX1_open_6 (by decide) ?_
  replace hf := rk_bd hf
  obtain ⟨I2, e2, hf⟩ := hf
  refine AW_puI dX1_open_7 kf_X1_28 rfl (hL.1 12 (by decide)) (by decide) e2 ?_
  refine AW_aload_n0 dX1_open_10 ?_
  refine AW_getR dX1_open_11 kf_X1_9 rfl (hL.1 12 (by decide)) (by decide) (hL.2 12 0 13 rfl) ?_
  refine AW_iconst (v := 0) dX1_open_14 (by decide) ?_
  replace hf := rk_bd hf
  obtain ⟨I3, e3, hf⟩ := hf
  refine AW_iS2vz (w_J7_fill_53178_13 (d := 0) hL e3) dX1_open_15 kl_X1_31 (Nat.le_trans (by decide) hd) (by decide) (Nat.le_of_ble_eq_true rfl) (fun _ => ?_)
  refine AW_aload_n0 dX1_open_18 ?_
  refine AW_getR dX1_open_19 kf_X1_9 rfl (hL.1 12 (by decide)) (by decide) (hL.2 12 0 13 rfl) ?_
  refine AW_aload_n1 dX1_open_22 ?_
  refine AW_getI dX1_open_23 kf_X1_37 rfl hS_a1 (by decide) ?_
  refine AW_aload_n1 dX1_open_26 ?_
  refine AW_getI dX1_open_27 kf_X1_42 rfl hS_a1 (by decide) ?_
  replace hf := rk_bd hf
  obtain ⟨I4, e4, hf⟩ := hf
  refine AW_wr dX1_open_30 (hL.1 13 (by decide)) e4 ?_
  refine AW_iconst (v := 0) dX1_open_31 (by decide) ?_
  refine AW_istore_5 dX1_open_32 (by decide) rfl ?_
  refine AW_sb (rk_sbs (rk_sbs (rk_sbs (rk_sbs (rk_sbs (rk_sbs rk_sb0)))))) ?_
  replace hf := rk_bd3 hf
  obtain ⟨x1, I5, R1, e5, hf⟩ := hf
  obtain ⟨m1, e5⟩ := rk_while_sp e5
  refine L_X1_open_w34 (Nat.le_trans (by decide) hd) hS_a1 ?_ m1 _ _ _ e5 hL
  intro x1 I5 R1 h9 hL1
  cases h9
  exact AW_vret dX1_open_74 rfl (hq _ _ (Option.some.inj hf).symm hL1)
theorem w_X1_open {G : rk_G} {l : Launch} {d : Nat} {n : Nat} {S : rk_Sh} {I : rk_I} {J : rk_J} {R : rk_R} {a1 : Nat} {a3 : Int32} {a4 : Int32} {I8 : rk_I} {R8 : rk_R} (hd : 4 ≤ d) (hS_a1 : S a1 = (0, 5)) (hL : rk_LC S R) (hf : f_X1_open S I R a1 a3 a4 = some (I8, R8)) :
    CW G l yX1_open cX1_open 6 none d 0 0 [.ref 12, .ref a1, .ref 2, .int a3, .int a4] n S I J R (rk_qv n S I8 J R8 (rk_LC S R8)) :=
  CW.of (by decide +kernel) (Nat.le_of_ble_eq_true rfl) (rk_sbs (rk_sbs (rk_sbs (rk_sbs (rk_sbs (rk_sbe rk_sb0)))))) (b_X1_open hd hS_a1 hL hf (fun I9 R9 h9 hl9 => by cases h9; exact ⟨rfl, rfl, rfl, rfl, rfl, rfl, hl9⟩))
noncomputable def f_X1_runTo_l0 (S : rk_Sh) (I : rk_I) (R : rk_R) (u1 : Int32) : Option ((rk_I) ⊕ (rk_I)) :=
if (I 12 3) ≤ (I 12 4) then (
some (.inr I)) else (
(rk_rd I 15 24 (I 12 4)).bind fun x1 =>
if u1 < x1 then (
some (.inr I)) else (
(rk_rdR R 14 24 (I 12 4)).bind fun q1 =>
(rk_dr S 5 11 q1).bind fun o1 =>
(rk_rd I 13 10 (I o1 2)).bind fun x2 =>
(rk_rd I 13 10 (I o1 2)).bind fun x3 =>
(rk_wr I 13 10 (I o1 2) (x3 - (rk_min (I o1 4) x2))).bind fun I1 =>
(rk_rd I1 13 10 (I1 o1 3)).bind fun x4 =>
(rk_wr I1 13 10 (I1 o1 3) (x4 + (rk_min (I o1 4) x2))).bind fun I2 =>
(some (rk_ui I2 12 4 ((I2 12 4) + 1))).bind fun I3 =>
some (.inl I3)))
theorem b_X1_runTo_l0 {G : rk_G} {l : Launch} {d kc ks : Nat} {n : Nat} {S : rk_Sh} {I : rk_I} {J : rk_J} {R : rk_R} {Q : rk_Q} {u1 : Int32} {r : (rk_I) ⊕ (rk_I)} (hd : 1 ≤ d) (hL : rk_LC S R) (hf : f_X1_runTo_l0 S I R u1 = some r) (hc : ∀ (I9 : rk_I), r = .inl I9 → AW G l yX1_runTo cX1_runTo 4 none d kc ks 0 [some (.ref 12), some (.int u1), none, none] [] n S I9 J R Q) (he : ∀ (I9 : rk_I), r = .inr I9 → AW G l yX1_runTo cX1_runTo 4 none d kc ks 90 [some (.ref 12), some (.int u1), none, none] [] n S I9 J R Q) :
    AW G l yX1_runTo cX1_runTo 4 none d kc ks 0 [some (.ref 12), some (.int u1), none, none] [] n S I J R Q := by
  unfold f_X1_runTo_l0 at hf
  refine AW_aload_n0 dX1_runTo_0 ?_
  refine AW_getI dX1_runTo_1 kf_X1_28 rfl (hL.1 12 (by decide)) (by decide) ?_
  refine AW_aload_n0 dX1_runTo_4 ?_
  refine AW_getI dX1_runTo_5 kf_X1_24 rfl (hL.1 12 (by decide)) (by decide) ?_
  refine AW_icmp_ge 90 dX1_runTo_8 (by decide) (fun h1 => ?_) (fun h1 => ?_)
  · replace hf := rk_it hf h1
    refine AW_sb (rk_sbs (rk_sbs (rk_sbn (rk_sbn rk_sb0)))) ?_
    exact he _ (Option.some.inj hf).symm
  · replace hf := rk_if hf h1
    refine AW_aload_n0 dX1_runTo_11 ?_
    refine AW_getR dX1_runTo_12 kf_X1_21 rfl (hL.1 12 (by decide)) (by decide) (hL.2 12 2 15 rfl) ?_
    refine AW_aload_n0 dX1_runTo_15 ?_
    refine AW_getI dX1_runTo_16 kf_X1_28 rfl (hL.1 12 (by decide)) (by decide) ?_
    replace hf := rk_bd hf
    obtain ⟨x1, e1, hf⟩ := hf
    refine AW_rd dX1_runTo_19 (hL.1 15 (by decide)) e1 ?_
    refine AW_iload_n1 dX1_runTo_20 ?_
    refine AW_icmp_gt 90 dX1_runTo_21 (by decide) (fun h2 => ?_) (fun h2 => ?_)
    · replace hf := rk_it hf h2
      refine AW_sb (rk_sbs (rk_sbs (rk_sbn (rk_sbn rk_sb0)))) ?_
      exact he _ (Option.some.inj hf).symm
    · replace hf := rk_if hf h2
      refine AW_aload_n0 dX1_runTo_24 ?_
      refine AW_getR dX1_runTo_25 kf_X1_17 rfl (hL.1 12 (by decide)) (by decide) (hL.2 12 1 14 rfl) ?_
      refine AW_aload_n0 dX1_runTo_28 ?_
      refine AW_getI dX1_runTo_29 kf_X1_28 rfl (hL.1 12 (by decide)) (by decide) ?_
      replace hf := rk_bd hf
      obtain ⟨q1, e2, hf⟩ := hf
      refine AW_rdR dX1_runTo_32 (hL.1 14 (by decide)) (by decide) e2 ?_
      refine AW_astoreO_n2 dX1_runTo_33 (by decide) rfl ?_
      refine AW_aloadO_n2 dX1_runTo_34 ?_
      replace hf := rk_bd hf
      obtain ⟨o1, e3, hf⟩ := hf
      obtain ⟨e3, hS1⟩ := rk_dr_sp e3
      subst e3
      refine AW_getI dX1_runTo_35 kf_X1_57 rfl hS1 (by decide) ?_
      refine AW_aload_n0 dX1_runTo_38 ?_
      refine AW_getR dX1_runTo_39 kf_X1_9 rfl (hL.1 12 (by decide)) (by decide) (hL.2 12 0 13 rfl) ?_
      refine AW_aload_n2 dX1_runTo_42 ?_
      refine AW_getI dX1_runTo_43 kf_X1_58 rfl hS1 (by decide) ?_
      replace hf := rk_bd hf
      obtain ⟨x2, e4, hf⟩ := hf
      refine AW_rd dX1_runTo_46 (hL.1 13 (by decide)) e4 ?_
      refine AW_mmin dX1_runTo_47 km_X1_61 (Nat.le_trans (by decide) hd) (Nat.le_of_ble_eq_true rfl) ?_
      refine AW_istore_n3 dX1_runTo_50 (by decide) rfl ?_
      refine AW_aload_n0 dX1_runTo_51 ?_
      refine AW_getR dX1_runTo_52 kf_X1_9 rfl (hL.1 12 (by decide)) (by decide) (hL.2 12 0 13 rfl) ?_
      refine AW_aload_n2 dX1_runTo_55 ?_
      refine AW_getI dX1_runTo_56 kf_X1_58 rfl hS1 (by decide) ?_
      refine AW_dup2 dX1_runTo_59 rfl rfl ?_
      replace hf := rk_bd hf
      obtain ⟨x3, e5, hf⟩ := hf
      refine AW_rd dX1_runTo_60 (hL.1 13 (by decide)) e5 ?_
      refine AW_iload_n3 dX1_runTo_61 ?_
      refine AW_isub dX1_runTo_62 ?_
      replace hf := rk_bd hf
      obtain ⟨I1, e6, hf⟩ := hf
      refine AW_wr dX1_runTo_63 (hL.1 13 (by decide)) e6 ?_
      refine AW_aload_n0 dX1_runTo_64 ?_
      refine AW_getR dX1_runTo_65 kf_X1_9 rfl (hL.1 12 (by decide)) (by decide) (hL.2 12 0 13 rfl) ?_
      refine AW_aload_n2 dX1_runTo_68 ?_
      refine AW_getI dX1_runTo_69 kf_X1_67 rfl hS1 (by decide) ?_
      refine AW_dup2 dX1_runTo_72 rfl rfl ?_
      replace hf := rk_bd hf
      obtain ⟨x4, e7, hf⟩ := hf
      refine AW_rd dX1_runTo_73 (hL.1 13 (by decide)) e7 ?_
      refine AW_iload_n3 dX1_runTo_74 ?_
      refine AW_iadd dX1_runTo_75 ?_
      replace hf := rk_bd hf
      obtain ⟨I2, e8, hf⟩ := hf
      refine AW_wr dX1_runTo_76 (hL.1 13 (by decide)) e8 ?_
      refine AW_aload_n0 dX1_runTo_77 ?_
      refine AW_dup dX1_runTo_78 rfl ?_
      refine AW_getI dX1_runTo_79 kf_X1_28 rfl (hL.1 12 (by decide)) (by decide) ?_
      refine AW_iconst (v := 1) dX1_runTo_82 (by decide) ?_
      refine AW_iadd dX1_runTo_83 ?_
      replace hf := rk_bd hf
      obtain ⟨I3, e9, hf⟩ := hf
      refine AW_puI dX1_runTo_84 kf_X1_28 rfl (hL.1 12 (by decide)) (by decide) e9 ?_
      refine AW_goto 0 dX1_runTo_87 (by decide) ?_
      refine AW_sb (rk_sbs (rk_sbs (rk_sbn (rk_sbn rk_sb0)))) ?_
      exact hc _ (Option.some.inj hf).symm
theorem L_X1_runTo_w0 {G : rk_G} {l : Launch} {d kc ks : Nat} {n : Nat} {S : rk_Sh} {J : rk_J} {R : rk_R} {Q : rk_Q} {u1 : Int32} {r : rk_I} (hd : 1 ≤ d) (hL : rk_LC S R) (he : ∀ (I9 : rk_I), r = I9 → AW G l yX1_runTo cX1_runTo 4 none d kc ks 90 [some (.ref 12), some (.int u1), none, none] [] n S I9 J R Q) :
    ∀ (m9 : Nat)  (I : rk_I), rk_loop (fun a9 => f_X1_runTo_l0 S a9 R u1) m9 I = some r → AW G l yX1_runTo cX1_runTo 4 none d kc ks 0 [some (.ref 12), some (.int u1), none, none] [] n S I J R Q := by
  intro m9
  induction m9 with
  | zero => intro I hf; cases hf
  | succ m9 ih =>
    intro I hf 
    obtain ⟨r9, hf, hr⟩ := rk_loop_s hf
    exact b_X1_runTo_l0 hd hL hf (fun _ h9 => by subst h9; exact ih _ hr) (fun _ h9 => by subst h9; exact he _ hr.symm)
noncomputable def f_X1_runTo (S : rk_Sh) (I : rk_I) (R : rk_R) (a1 : Int32) : Option (rk_I) :=
(rk_while (fun a9 => f_X1_runTo_l0 S a9 R a1) I).bind fun I1 =>
some I1
theorem b_X1_runTo {G : rk_G} {l : Launch} {d kc ks : Nat} {n : Nat} {S : rk_Sh} {I : rk_I} {J : rk_J} {R : rk_R} {Q : rk_Q} {a1 : Int32} {r : rk_I} (hd : 1 ≤ d) (hL : rk_LC S R) (hf : f_X1_runTo S I R a1 = some r) (hq : ∀ (I9 : rk_I), r = I9 → Q (none) n S I9 J R) :
    AW G l yX1_runTo cX1_runTo 4 none d kc ks 0 [some (.ref 12), some (.int a1), none, none] [] n S I J R Q := by
  unfold f_X1_runTo at hf
  refine AW_sb (rk_sbs (rk_sbs (rk_sbn (rk_sbn rk_sb0)))) ?_
  replace hf := rk_bd hf
  obtain ⟨I1, e1, hf⟩ := hf
  obtain ⟨m1, e1⟩ := rk_while_sp e1
  refine L_X1_runTo_w0 (Nat.le_trans (by decide) hd) hL ?_ m1 _ e1
  intro I1 h9
  cases h9
  exact AW_vret dX1_runTo_90 rfl (hq _ (Option.some.inj hf).symm)
theorem w_X1_runTo {G : rk_G} {l : Launch} {d : Nat} {n : Nat} {S : rk_Sh} {I : rk_I} {J : rk_J} {R : rk_R} {a1 : Int32} {I8 : rk_I} (hd : 1 ≤ d) (hL : rk_LC S R) (hf : f_X1_runTo S I R a1 = some I8) :
    CW G l yX1_runTo cX1_runTo 4 none d 0 0 [.ref 12, .int a1] n S I J R (rk_qv n S I8 J R True) :=
  CW.of (by decide +kernel) (Nat.le_of_ble_eq_true rfl) (rk_sbs (rk_sbs (rk_sbe (rk_sbe rk_sb0)))) (b_X1_runTo hd hL hf (fun I9 h9 => by cases h9; exact ⟨rfl, rfl, rfl, rfl, rfl, rfl, trivial⟩))
noncomputable def f_X9_heldAt (S : rk_Sh) (I : rk_I) (R : rk_R) (a1 : Nat) (a2 : Int32) (a3 : Int32) (a4 : Int32) : Option (Int32 × rk_I × rk_R) :=
rk_b2 (f_X1_open S I R a1 (I 0 3) a4) fun I1 R1 =>
(f_X1_runTo S I1 R1 a3).bind fun I2 =>
(rk_rd I2 13 10 a2).bind fun x1 =>
some (x1, I2, R1)
theorem b_X9_heldAt {G : rk_G} {l : Launch} {d kc ks : Nat} {n : Nat} {S : rk_Sh} {I : rk_I} {J : rk_J} {R : rk_R} {Q : rk_Q} {a1 : Nat} {a2 : Int32} {a3 : Int32} {a4 : Int32} {r : Int32 × rk_I × rk_R} (hd : 5 ≤ d) (hS_a1 : S a1 = (0, 5)) (hL : rk_LC S R) (hf : f_X9_heldAt S I R a1 a2 a3 a4 = some r) (hq : ∀ (v9 : Int32) (I9 : rk_I) (R9 : rk_R), r = (v9, I9, R9) → rk_LC S R9 → Q (some (.int v9)) n S I9 J R9) :
    AW G l yX9_heldAt cX9_heldAt 5 (some .int) d kc ks 0 [some (.ref 0), some (.ref a1), some (.int a2), some (.int a3), some (.int a4)] [] n S I J R Q := by
  unfold f_X9_heldAt at hf
  refine AW_aload_n0 dX9_heldAt_0 ?_
  refine AW_getR dX9_heldAt_1 kf_X9_44 rfl (hL.1 0 (by decide)) (by decide) (hL.2 0 9 12 rfl) ?_
  refine AW_aload_n1 dX9_heldAt_4 ?_
  refine AW_aload_n0 dX9_heldAt_5 ?_
  refine AW_getR dX9_heldAt_6 kf_X9_17 rfl (hL.1 0 (by decide)) (by decide) (hL.2 0 2 2 rfl) ?_
  refine AW_aload_n0 dX9_heldAt_9 ?_
  refine AW_getI dX9_heldAt_10 kf_X9_125 rfl (hL.1 0 (by decide)) (by decide) ?_
  refine AW_iload_4 dX9_heldAt_13 ?_
  replace hf := rk_bd2 hf
  obtain ⟨I1, R1, e1, hf⟩ := hf
  refine AW_iV4vz (w_X1_open (d := 4) (Nat.le_refl _) hS_a1 hL e1) dX9_heldAt_15 kl_X9_168 (hL.1 12 (by decide)) rfl (Nat.le_trans (by decide) hd) (by decide) (Nat.le_of_ble_eq_true rfl) (fun hL1 => ?_)
  refine AW_aload_n0 dX9_heldAt_18 ?_
  refine AW_getR dX9_heldAt_19 kf_X9_44 rfl (hL1.1 0 (by decide)) (by decide) (hL1.2 0 9 12 rfl) ?_
  refine AW_iload_n3 dX9_heldAt_22 ?_
  replace hf := rk_bd hf
  obtain ⟨I2, e2, hf⟩ := hf
  refine AW_iV1vz (w_X1_runTo (d := 1) (Nat.le_refl _) hL1 e2) dX9_heldAt_23 kl_X9_172 (hL1.1 12 (by decide)) rfl (Nat.le_trans (by decide) hd) (by decide) (Nat.le_of_ble_eq_true rfl) (fun _ => ?_)
  refine AW_aload_n0 dX9_heldAt_26 ?_
  refine AW_getR dX9_heldAt_27 kf_X9_44 rfl (hL1.1 0 (by decide)) (by decide) (hL1.2 0 9 12 rfl) ?_
  refine AW_getR dX9_heldAt_30 kf_X9_175 rfl (hL1.1 12 (by decide)) (by decide) (hL1.2 12 0 13 rfl) ?_
  refine AW_iload_n2 dX9_heldAt_33 ?_
  replace hf := rk_bd hf
  obtain ⟨x1, e3, hf⟩ := hf
  refine AW_rd dX9_heldAt_34 (hL1.1 13 (by decide)) e3 ?_
  exact AW_iret dX9_heldAt_35 rfl (hq _ _ _ (Option.some.inj hf).symm hL1)
theorem w_X9_heldAt {G : rk_G} {l : Launch} {d : Nat} {n : Nat} {S : rk_Sh} {I : rk_I} {J : rk_J} {R : rk_R} {a1 : Nat} {a2 : Int32} {a3 : Int32} {a4 : Int32} {v8 : Int32} {I8 : rk_I} {R8 : rk_R} (hd : 5 ≤ d) (hS_a1 : S a1 = (0, 5)) (hL : rk_LC S R) (hf : f_X9_heldAt S I R a1 a2 a3 a4 = some (v8, I8, R8)) :
    CW G l yX9_heldAt cX9_heldAt 5 (some .int) d 0 0 [.ref 0, .ref a1, .int a2, .int a3, .int a4] n S I J R (rk_qi v8 n S I8 J R8 (rk_LC S R8)) :=
  CW.of (by decide +kernel) (Nat.le_of_ble_eq_true rfl) (rk_sbs (rk_sbs (rk_sbs (rk_sbs (rk_sbs rk_sb0))))) (b_X9_heldAt hd hS_a1 hL hf (fun v9 I9 R9 h9 hl9 => by cases h9; exact ⟨rfl, rfl, rfl, rfl, rfl, rfl, hl9⟩))
noncomputable def f_X9_whose (S : rk_Sh) (I : rk_I) (R : rk_R) (a1 : Int32) (a2 : Int32) (a3 : Int32) (a4 : Int32) : Option (Int32 × rk_I × rk_R) :=
(f_X9_cargoAt I R a1).bind fun q1 =>
rk_oc q1 (
some ((-2), I, R)) (fun o1 => (
(f_X9_isHand a2).bind fun x1 =>
if x1 = 0 then (
some ((-2), I, R)) else (
(f_X9_isHour a3).bind fun x2 =>
if x2 = 0 then (
some ((-2), I, R)) else (
if a4 = 0 then (
rk_b3 (f_X9_heldAt S I R o1 a2 a3 a4) fun x3 I1 R1 =>
(rk_ck S o1 0 5).bind fun _ =>
some (x3, I1, R1)) else (
if a4 = 1 then (
rk_b3 (f_X9_heldAt S I R o1 a2 a3 a4) fun x4 I2 R2 =>
(rk_ck S o1 0 5).bind fun _ =>
some (x4, I2, R2)) else (
some ((-2), I, R)))))))
theorem b_X9_whose {G : rk_G} {l : Launch} {d kc ks : Nat} {n : Nat} {S : rk_Sh} {I : rk_I} {J : rk_J} {R : rk_R} {Q : rk_Q} {a1 : Int32} {a2 : Int32} {a3 : Int32} {a4 : Int32} {r : Int32 × rk_I × rk_R} (hd : 6 ≤ d) (hL : rk_LC S R) (hf : f_X9_whose S I R a1 a2 a3 a4 = some r) (hq : ∀ (v9 : Int32) (I9 : rk_I) (R9 : rk_R), r = (v9, I9, R9) → rk_LC S R9 → Q (some (.int v9)) n S I9 J R9) :
    AW G l yX9_whose cX9_whose 6 (some .int) d kc ks 0 [some (.ref 0), some (.int a1), some (.int a2), some (.int a3), some (.int a4), none] [] n S I J R Q := by
  unfold f_X9_whose at hf
  refine AW_aload_n0 dX9_whose_0 ?_
  refine AW_iload_n1 dX9_whose_1 ?_
  replace hf := rk_bd hf
  obtain ⟨q1, e1, hf⟩ := hf
  refine AW_iV1oz (w_X9_cargoAt (d := 0) hL e1) dX9_whose_2 kl_X9_109 (hL.1 0 (by decide)) rfl (Nat.le_trans (by decide) hd) (by decide) (Nat.le_of_ble_eq_true rfl) (fun _ => ?_)
  refine AW_astoreO_5 dX9_whose_5 (by decide) rfl ?_
  refine AW_aloadO_5 dX9_whose_7 ?_
  rcases q1 with _ | o1
  · replace hf := rk_oc_n hf
    refine AW_ifnullN 37 dX9_whose_9 (by decide) ?_
    refine AW_bipush (v := (-2)) dX9_whose_37 (by decide) ?_
    exact AW_iret dX9_whose_39 rfl (hq _ _ _ (Option.some.inj hf).symm hL)
  · replace hf := rk_oc_s hf
    refine AW_ifnull dX9_whose_9 ?_
    refine AW_iload_n2 dX9_whose_12 ?_
    replace hf := rk_bd hf
    obtain ⟨x1, e2, hf⟩ := hf
    refine AW_iS1iz (w_X9_isHand (d := 0) e2) dX9_whose_13 kl_X9_100 (Nat.le_trans (by decide) hd) (by decide) (Nat.le_of_ble_eq_true rfl) (fun _ => ?_)
    refine AW_if_eq 37 dX9_whose_16 (by decide) (fun h1 => ?_) (fun h1 => ?_)
    · replace hf := rk_it hf h1
      refine AW_bipush (v := (-2)) dX9_whose_37 (by decide) ?_
      exact AW_iret dX9_whose_39 rfl (hq _ _ _ (Option.some.inj hf).symm hL)
    · replace hf := rk_if hf h1
      refine AW_iload_n3 dX9_whose_19 ?_
      replace hf := rk_bd hf
      obtain ⟨x2, e3, hf⟩ := hf
      refine AW_iS1iz (w_X9_isHour (d := 0) e3) dX9_whose_20 kl_X9_122 (Nat.le_trans (by decide) hd) (by decide) (Nat.le_of_ble_eq_true rfl) (fun _ => ?_)
      refine AW_if_eq 37 dX9_whose_23 (by decide) (fun h2 => ?_) (fun h2 => ?_)
      · replace hf := rk_it hf h2
        refine AW_bipush (v := (-2)) dX9_whose_37 (by decide) ?_
        exact AW_iret dX9_whose_39 rfl (hq _ _ _ (Option.some.inj hf).symm hL)
      · replace hf := rk_if hf h2
        refine AW_iload_4 dX9_whose_26 ?_
        refine AW_if_eq 40 dX9_whose_28 (by decide) (fun h3 => ?_) (fun h3 => ?_)
        · replace hf := rk_it hf h3
          refine AW_aload_n0 dX9_whose_40 ?_
          refine AW_aload_5 dX9_whose_41 ?_
          refine AW_iload_n2 dX9_whose_43 ?_
          refine AW_iload_n3 dX9_whose_44 ?_
          refine AW_iload_4 dX9_whose_45 ?_
          replace hf := rk_bd3 hf
          obtain ⟨x3, I1, R1, e4, hf⟩ := hf
          replace hf := rk_bd hf
          obtain ⟨_, e5, hf⟩ := hf
          have e5 := rk_ck_sp e5
          refine AW_iV4iz (w_X9_heldAt (d := 5) (Nat.le_refl _) e5 hL e4) dX9_whose_47 kl_X9_149 (hL.1 0 (by decide)) rfl (Nat.le_trans (by decide) hd) (by decide) (Nat.le_of_ble_eq_true rfl) (fun hL1 => ?_)
          exact AW_iret dX9_whose_50 rfl (hq _ _ _ (Option.some.inj hf).symm hL1)
        · replace hf := rk_if hf h3
          refine AW_iload_4 dX9_whose_31 ?_
          refine AW_iconst (v := 1) dX9_whose_33 (by decide) ?_
          refine AW_icmp_eq 40 dX9_whose_34 (by decide) (fun h4 => ?_) (fun h4 => ?_)
          · replace hf := rk_it hf h4
            refine AW_aload_n0 dX9_whose_40 ?_
            refine AW_aload_5 dX9_whose_41 ?_
            refine AW_iload_n2 dX9_whose_43 ?_
            refine AW_iload_n3 dX9_whose_44 ?_
            refine AW_iload_4 dX9_whose_45 ?_
            replace hf := rk_bd3 hf
            obtain ⟨x4, I2, R2, e6, hf⟩ := hf
            replace hf := rk_bd hf
            obtain ⟨_, e7, hf⟩ := hf
            have e7 := rk_ck_sp e7
            refine AW_iV4iz (w_X9_heldAt (d := 5) (Nat.le_refl _) e7 hL e6) dX9_whose_47 kl_X9_149 (hL.1 0 (by decide)) rfl (Nat.le_trans (by decide) hd) (by decide) (Nat.le_of_ble_eq_true rfl) (fun hL2 => ?_)
            exact AW_iret dX9_whose_50 rfl (hq _ _ _ (Option.some.inj hf).symm hL2)
          · replace hf := rk_if hf h4
            refine AW_bipush (v := (-2)) dX9_whose_37 (by decide) ?_
            exact AW_iret dX9_whose_39 rfl (hq _ _ _ (Option.some.inj hf).symm hL)
theorem w_X9_whose {G : rk_G} {l : Launch} {d : Nat} {n : Nat} {S : rk_Sh} {I : rk_I} {J : rk_J} {R : rk_R} {a1 : Int32} {a2 : Int32} {a3 : Int32} {a4 : Int32} {v8 : Int32} {I8 : rk_I} {R8 : rk_R} (hd : 6 ≤ d) (hL : rk_LC S R) (hf : f_X9_whose S I R a1 a2 a3 a4 = some (v8, I8, R8)) :
    CW G l yX9_whose cX9_whose 6 (some .int) d 0 0 [.ref 0, .int a1, .int a2, .int a3, .int a4] n S I J R (rk_qi v8 n S I8 J R8 (rk_LC S R8)) :=
  CW.of (by decide +kernel) (Nat.le_of_ble_eq_true rfl) (rk_sbs (rk_sbs (rk_sbs (rk_sbs (rk_sbs (rk_sbe rk_sb0)))))) (b_X9_whose hd hL hf (fun v9 I9 R9 h9 hl9 => by cases h9; exact ⟨rfl, rfl, rfl, rfl, rfl, rfl, hl9⟩))
noncomputable def f_X10_ahead_l4 (I : rk_I) (s1 : Int32) (s2 : Int32) : Option ((Int32 × Int32) ⊕ (Int32 × Int32)) :=
if (I 31 20) ≤ s2 then (
some (.inr (s1, s2))) else (
(rk_rd I 48 24 s2).bind fun x1 =>
if x1 = (-1) then (
some (.inl (s1, (s2 + 1)))) else (
if s1 = (-1) then (
some (.inl (s2, (s2 + 1)))) else (
(rk_rd I 48 24 s2).bind fun x2 =>
(rk_rd I 48 24 s1).bind fun x3 =>
if x3 ≤ x2 then (
some (.inl (s1, (s2 + 1)))) else (
some (.inl (s2, (s2 + 1)))))))
theorem b_X10_ahead_l4 {G : rk_G} {l : Launch} {d kc ks : Nat} {n : Nat} {S : rk_Sh} {I : rk_I} {J : rk_J} {R : rk_R} {Q : rk_Q} {s1 : Int32} {s2 : Int32} {r : (Int32 × Int32) ⊕ (Int32 × Int32)} (hM : rk_LM S R) (hf : f_X10_ahead_l4 I s1 s2 = some r) (hc : ∀ (w0 : Int32) (w1 : Int32), r = .inl (w0, w1) → AW G l yX10_ahead cX10_ahead 3 (some .int) d kc ks 4 [some (.ref 31), some (.int w0), some (.int w1)] [] n S I J R Q) (he : ∀ (w0 : Int32) (w1 : Int32), r = .inr (w0, w1) → AW G l yX10_ahead cX10_ahead 3 (some .int) d kc ks 50 [some (.ref 31), some (.int w0), some (.int w1)] [] n S I J R Q) :
    AW G l yX10_ahead cX10_ahead 3 (some .int) d kc ks 4 [some (.ref 31), some (.int s1), some (.int s2)] [] n S I J R Q := by
  unfold f_X10_ahead_l4 at hf
  refine AW_iload_n2 dX10_ahead_4 ?_
  refine AW_aload_n0 dX10_ahead_5 ?_
  refine AW_getI dX10_ahead_6 kf_X10_118 rfl (hM.1 31 (by decide) (by decide)) (by decide) ?_
  refine AW_icmp_ge 50 dX10_ahead_9 (by decide) (fun h1 => ?_) (fun h1 => ?_)
  · replace hf := rk_it hf h1
    refine AW_sb (rk_sbs (rk_sbs (rk_sbs rk_sb0))) ?_
    exact he _ _ (Option.some.inj hf).symm
  · replace hf := rk_if hf h1
    refine AW_aload_n0 dX10_ahead_12 ?_
    refine AW_getR dX10_ahead_13 kf_X10_62 rfl (hM.1 31 (by decide) (by decide)) (by decide) (hM.2 31 22 48 rfl) ?_
    refine AW_iload_n2 dX10_ahead_16 ?_
    replace hf := rk_bd hf
    obtain ⟨x1, e1, hf⟩ := hf
    refine AW_rd dX10_ahead_17 (hM.1 48 (by decide) (by decide)) e1 ?_
    refine AW_iconst (v := (-1)) dX10_ahead_18 (by decide) ?_
    refine AW_icmp_eq 44 dX10_ahead_19 (by decide) (fun h2 => ?_) (fun h2 => ?_)
    · replace hf := rk_it hf h2
      refine AW_iinc_2 (v := 1) dX10_ahead_44 (by decide) (by decide) rfl ?_
      refine AW_goto 4 dX10_ahead_47 (by decide) ?_
      refine AW_sb (rk_sbs (rk_sbs (rk_sbs rk_sb0))) ?_
      exact hc _ _ (Option.some.inj hf).symm
    · replace hf := rk_if hf h2
      refine AW_iload_n1 dX10_ahead_22 ?_
      refine AW_iconst (v := (-1)) dX10_ahead_23 (by decide) ?_
      refine AW_icmp_eq 42 dX10_ahead_24 (by decide) (fun h3 => ?_) (fun h3 => ?_)
      · replace hf := rk_it hf h3
        refine AW_iload_n2 dX10_ahead_42 ?_
        refine AW_istore_n1 dX10_ahead_43 (by decide) rfl ?_
        refine AW_iinc_2 (v := 1) dX10_ahead_44 (by decide) (by decide) rfl ?_
        refine AW_goto 4 dX10_ahead_47 (by decide) ?_
        refine AW_sb (rk_sbs (rk_sbs (rk_sbs rk_sb0))) ?_
        exact hc _ _ (Option.some.inj hf).symm
      · replace hf := rk_if hf h3
        refine AW_aload_n0 dX10_ahead_27 ?_
        refine AW_getR dX10_ahead_28 kf_X10_62 rfl (hM.1 31 (by decide) (by decide)) (by decide) (hM.2 31 22 48 rfl) ?_
        refine AW_iload_n2 dX10_ahead_31 ?_
        replace hf := rk_bd hf
        obtain ⟨x2, e2, hf⟩ := hf
        refine AW_rd dX10_ahead_32 (hM.1 48 (by decide) (by decide)) e2 ?_
        refine AW_aload_n0 dX10_ahead_33 ?_
        refine AW_getR dX10_ahead_34 kf_X10_62 rfl (hM.1 31 (by decide) (by decide)) (by decide) (hM.2 31 22 48 rfl) ?_
        refine AW_iload_n1 dX10_ahead_37 ?_
        replace hf := rk_bd hf
        obtain ⟨x3, e3, hf⟩ := hf
        refine AW_rd dX10_ahead_38 (hM.1 48 (by decide) (by decide)) e3 ?_
        refine AW_icmp_ge 44 dX10_ahead_39 (by decide) (fun h4 => ?_) (fun h4 => ?_)
        · replace hf := rk_it hf h4
          refine AW_iinc_2 (v := 1) dX10_ahead_44 (by decide) (by decide) rfl ?_
          refine AW_goto 4 dX10_ahead_47 (by decide) ?_
          refine AW_sb (rk_sbs (rk_sbs (rk_sbs rk_sb0))) ?_
          exact hc _ _ (Option.some.inj hf).symm
        · replace hf := rk_if hf h4
          refine AW_iload_n2 dX10_ahead_42 ?_
          refine AW_istore_n1 dX10_ahead_43 (by decide) rfl ?_
          refine AW_iinc_2 (v := 1) dX10_ahead_44 (by decide) (by decide) rfl ?_
          refine AW_goto 4 dX10_ahead_47 (by decide) ?_
          refine AW_sb (rk_sbs (rk_sbs (rk_sbs rk_sb0))) ?_
          exact hc _ _ (Option.some.inj hf).symm
theorem L_X10_ahead_w4 {G : rk_G} {l : Launch} {d kc ks : Nat} {n : Nat} {S : rk_Sh} {I : rk_I} {J : rk_J} {R : rk_R} {Q : rk_Q}  {r : Int32 × Int32} (hM : rk_LM S R) (he : ∀ (w0 : Int32) (w1 : Int32), r = (w0, w1) → AW G l yX10_ahead cX10_ahead 3 (some .int) d kc ks 50 [some (.ref 31), some (.int w0), some (.int w1)] [] n S I J R Q) :
    ∀ (m9 : Nat) (s1 : Int32) (s2 : Int32) , rk_loop (fun a9 => f_X10_ahead_l4 I a9.1 a9.2) m9 (s1, s2) = some r → AW G l yX10_ahead cX10_ahead 3 (some .int) d kc ks 4 [some (.ref 31), some (.int s1), some (.int s2)] [] n S I J R Q := by
  intro m9
  induction m9 with
  | zero => intro s1 s2 hf; cases hf
  | succ m9 ih =>
    intro s1 s2 hf 
    obtain ⟨r9, hf, hr⟩ := rk_loop_s hf
    exact b_X10_ahead_l4 hM hf (fun _ _ h9 => by subst h9; exact ih _ _ hr) (fun _ _ h9 => by subst h9; exact he _ _ hr.symm)
noncomputable def f_X10_ahead (I : rk_I)  : Option (Int32) :=
rk_b2 (rk_while (fun a9 => f_X10_ahead_l4 I a9.1 a9.2) ((-1), 0)) fun x1 x2 =>
some x1
theorem b_X10_ahead {G : rk_G} {l : Launch} {d kc ks : Nat} {n : Nat} {S : rk_Sh} {I : rk_I} {J : rk_J} {R : rk_R} {Q : rk_Q}  {r : Int32} (hM : rk_LM S R) (hf : f_X10_ahead I = some r) (hq : ∀ (v9 : Int32), r = v9 → Q (some (.int v9)) n S I J R) :
    AW G l yX10_ahead cX10_ahead 3 (some .int) d kc ks 0 [some (.ref 31), none, none] [] n S I J R Q := by
  unfold f_X10_ahead at hf
  refine AW_iconst (v := (-1)) dX10_ahead_0 (by decide) ?_
  refine AW_istore_n1 dX10_ahead_1 (by decide) rfl ?_
  refine AW_iconst (v := 0) dX10_ahead_2 (by decide) ?_
  refine AW_istore_n2 dX10_ahead_3 (by decide) rfl ?_
  refine AW_sb (rk_sbs (rk_sbs (rk_sbs rk_sb0))) ?_
  replace hf := rk_bd2 hf
  obtain ⟨x1, x2, e1, hf⟩ := hf
  obtain ⟨m1, e1⟩ := rk_while_sp e1
  refine L_X10_ahead_w4 hM ?_ m1 _ _ e1
  intro x1 x2 h9
  cases h9
  refine AW_iload_n1 dX10_ahead_50 ?_
  exact AW_iret dX10_ahead_51 rfl (hq _ (Option.some.inj hf).symm)
theorem w_X10_ahead {G : rk_G} {l : Launch} {d : Nat} {n : Nat} {S : rk_Sh} {I : rk_I} {J : rk_J} {R : rk_R}  {v8 : Int32} (hM : rk_LM S R) (hf : f_X10_ahead I = some v8) :
    CW G l yX10_ahead cX10_ahead 3 (some .int) d 0 0 [.ref 31] n S I J R (rk_qi v8 n S I J R True) :=
  CW.of (by decide +kernel) (Nat.le_of_ble_eq_true rfl) (rk_sbs (rk_sbe (rk_sbe rk_sb0))) (b_X10_ahead hM hf (fun v9 h9 => by cases h9; exact ⟨rfl, rfl, rfl, rfl, rfl, rfl, trivial⟩))
noncomputable def f_X10_lays_l3 (I : rk_I) (u1 : Int32) (u2 : Int32) (u3 : Int32) (s4 : Int32) : Option ((Int32 × rk_I) ⊕ (Int32 × rk_I)) :=
if 10 ≤ s4 then (
some (.inr (s4, I))) else (
(rk_rd I 36 4 u1).bind fun x1 =>
if s4 = x1 then (
(rk_rd I 35 4 u1).bind fun x2 =>
(rk_wr I 47 10 s4 x2).bind fun I2 =>
some (.inl ((s4 + 1), I2))) else (
(rk_wr I 47 10 s4 0).bind fun I1 =>
some (.inl ((s4 + 1), I1))))
theorem b_X10_lays_l3 {G : rk_G} {l : Launch} {d kc ks : Nat} {n : Nat} {S : rk_Sh} {I : rk_I} {J : rk_J} {R : rk_R} {Q : rk_Q} {u1 : Int32} {u2 : Int32} {u3 : Int32} {s4 : Int32} {r : (Int32 × rk_I) ⊕ (Int32 × rk_I)} (hd : 4 ≤ d) (hM : rk_LM S R) (hf : f_X10_lays_l3 I u1 u2 u3 s4 = some r) (hc : ∀ (w0 : Int32) (I9 : rk_I), r = .inl (w0, I9) → AW G l yX10_lays cX10_lays 6 none d kc ks 3 [some (.ref 31), some (.int u1), some (.int u2), some (.int u3), some (.int w0), none] [] n S I9 J R Q) (he : ∀ (w0 : Int32) (I9 : rk_I), r = .inr (w0, I9) → AW G l yX10_lays cX10_lays 6 none d kc ks 44 [some (.ref 31), some (.int u1), some (.int u2), some (.int u3), some (.int w0), none] [] n S I9 J R Q) :
    AW G l yX10_lays cX10_lays 6 none d kc ks 3 [some (.ref 31), some (.int u1), some (.int u2), some (.int u3), some (.int s4), none] [] n S I J R Q := by
  unfold f_X10_lays_l3 at hf
  refine AW_iload_4 dX10_lays_3 ?_
  refine AW_bipush (v := 10) dX10_lays_5 (by decide) ?_
  refine AW_icmp_ge 44 dX10_lays_7 (by decide) (fun h1 => ?_) (fun h1 => ?_)
  · replace hf := rk_it hf h1
    refine AW_sb (rk_sbs (rk_sbs (rk_sbs (rk_sbs (rk_sbs (rk_sbn rk_sb0)))))) ?_
    exact he _ _ (Option.some.inj hf).symm
  · replace hf := rk_if hf h1
    refine AW_aload_n0 dX10_lays_10 ?_
    refine AW_getR dX10_lays_11 kf_X10_59 rfl (hM.1 31 (by decide) (by decide)) (by decide) (hM.2 31 21 47 rfl) ?_
    refine AW_iload_4 dX10_lays_14 ?_
    refine AW_iload_4 dX10_lays_16 ?_
    refine AW_aload_n0 dX10_lays_18 ?_
    refine AW_getR dX10_lays_19 kf_X10_26 rfl (hM.1 31 (by decide) (by decide)) (by decide) (hM.2 31 8 36 rfl) ?_
    refine AW_iload_n1 dX10_lays_22 ?_
    replace hf := rk_bd hf
    obtain ⟨x1, e1, hf⟩ := hf
    refine AW_rd dX10_lays_23 (hM.1 36 (by decide) (by decide)) e1 ?_
    refine AW_icmp_ne 36 dX10_lays_24 (by decide) (fun h2 => ?_) (fun h2 => ?_)
    · replace hf := rk_if hf h2
      refine AW_iconst (v := 0) dX10_lays_36 (by decide) ?_
      replace hf := rk_bd hf
      obtain ⟨I1, e2, hf⟩ := hf
      refine AW_wr dX10_lays_37 (hM.1 47 (by decide) (by decide)) e2 ?_
      refine AW_iinc_4 (v := 1) dX10_lays_38 (by decide) (by decide) rfl ?_
      refine AW_goto 3 dX10_lays_41 (by decide) ?_
      refine AW_sb (rk_sbs (rk_sbs (rk_sbs (rk_sbs (rk_sbs (rk_sbn rk_sb0)))))) ?_
      exact hc _ _ (Option.some.inj hf).symm
    · replace hf := rk_it hf h2
      refine AW_aload_n0 dX10_lays_27 ?_
      refine AW_getR dX10_lays_28 kf_X10_23 rfl (hM.1 31 (by decide) (by decide)) (by decide) (hM.2 31 7 35 rfl) ?_
      refine AW_iload_n1 dX10_lays_31 ?_
      replace hf := rk_bd hf
      obtain ⟨x2, e3, hf⟩ := hf
      refine AW_rd dX10_lays_32 (hM.1 35 (by decide) (by decide)) e3 ?_
      refine AW_goto 37 dX10_lays_33 (by decide) ?_
      replace hf := rk_bd hf
      obtain ⟨I2, e4, hf⟩ := hf
      refine AW_wr dX10_lays_37 (hM.1 47 (by decide) (by decide)) e4 ?_
      refine AW_iinc_4 (v := 1) dX10_lays_38 (by decide) (by decide) rfl ?_
      refine AW_goto 3 dX10_lays_41 (by decide) ?_
      refine AW_sb (rk_sbs (rk_sbs (rk_sbs (rk_sbs (rk_sbs (rk_sbn rk_sb0)))))) ?_
      exact hc _ _ (Option.some.inj hf).symm
theorem L_X10_lays_w3 {G : rk_G} {l : Launch} {d kc ks : Nat} {n : Nat} {S : rk_Sh} {J : rk_J} {R : rk_R} {Q : rk_Q} {u1 : Int32} {u2 : Int32} {u3 : Int32} {r : Int32 × rk_I} (hd : 4 ≤ d) (hM : rk_LM S R) (he : ∀ (w0 : Int32) (I9 : rk_I), r = (w0, I9) → AW G l yX10_lays cX10_lays 6 none d kc ks 44 [some (.ref 31), some (.int u1), some (.int u2), some (.int u3), some (.int w0), none] [] n S I9 J R Q) :
    ∀ (m9 : Nat) (s4 : Int32) (I : rk_I), rk_loop (fun a9 => f_X10_lays_l3 a9.2 u1 u2 u3 a9.1) m9 (s4, I) = some r → AW G l yX10_lays cX10_lays 6 none d kc ks 3 [some (.ref 31), some (.int u1), some (.int u2), some (.int u3), some (.int s4), none] [] n S I J R Q := by
  intro m9
  induction m9 with
  | zero => intro s4 I hf; cases hf
  | succ m9 ih =>
    intro s4 I hf 
    obtain ⟨r9, hf, hr⟩ := rk_loop_s hf
    exact b_X10_lays_l3 hd hM hf (fun _ _ h9 => by subst h9; exact ih _ _ hr) (fun _ _ h9 => by subst h9; exact he _ _ hr.symm)
noncomputable def f_X10_lays_j80 (I : rk_I) (u1 : Int32) (u2 : Int32) (u3 : Int32) (j4 : Int32) (t0 : Int32) : Option ((Int32 × rk_I) ⊕ (Int32 × rk_I)) :=
if u2 < t0 then (
(rk_wr I 48 24 j4 (-1)).bind fun I1 =>
some (.inl ((j4 + 1), I1))) else (
if t0 = 1000 then (
(rk_wr I 48 24 j4 (-1)).bind fun I2 =>
some (.inl ((j4 + 1), I2))) else (
(rk_wr I 48 24 j4 t0).bind fun I3 =>
some (.inl ((j4 + 1), I3))))
theorem b_X10_lays_j80 {G : rk_G} {l : Launch} {d kc ks : Nat} {n : Nat} {S : rk_Sh} {I : rk_I} {J : rk_J} {R : rk_R} {Q : rk_Q} {u1 : Int32} {u2 : Int32} {u3 : Int32} {j4 : Int32} {t0 : Int32} {r : (Int32 × rk_I) ⊕ (Int32 × rk_I)} (hd : 4 ≤ d) (hM : rk_LM S R) (hf : f_X10_lays_j80 I u1 u2 u3 j4 t0 = some r) (hc : ∀ (w0 : Int32) (I9 : rk_I), r = .inl (w0, I9) → AW G l yX10_lays cX10_lays 6 none d kc ks 47 [some (.ref 31), some (.int u1), some (.int u2), some (.int u3), some (.int w0), none] [] n S I9 J R Q) (he : ∀ (w0 : Int32) (I9 : rk_I), r = .inr (w0, I9) → AW G l yX10_lays cX10_lays 6 none d kc ks 115 [some (.ref 31), some (.int u1), some (.int u2), some (.int u3), some (.int w0), none] [] n S I9 J R Q) :
    AW G l yX10_lays cX10_lays 6 none d kc ks 80 [some (.ref 31), some (.int u1), some (.int u2), some (.int u3), some (.int j4), none] [.int t0] n S I J R Q := by
  unfold f_X10_lays_j80 at hf
  refine AW_istore_5 dX10_lays_80 (by decide) rfl ?_
  refine AW_aload_n0 dX10_lays_82 ?_
  refine AW_getR dX10_lays_83 kf_X10_62 rfl (hM.1 31 (by decide) (by decide)) (by decide) (hM.2 31 22 48 rfl) ?_
  refine AW_iload_4 dX10_lays_86 ?_
  refine AW_iload_5 dX10_lays_88 ?_
  refine AW_iload_n2 dX10_lays_90 ?_
  refine AW_icmp_gt 107 dX10_lays_91 (by decide) (fun h1 => ?_) (fun h1 => ?_)
  · replace hf := rk_it hf h1
    refine AW_iconst (v := (-1)) dX10_lays_107 (by decide) ?_
    replace hf := rk_bd hf
    obtain ⟨I1, e1, hf⟩ := hf
    refine AW_wr dX10_lays_108 (hM.1 48 (by decide) (by decide)) e1 ?_
    refine AW_iinc_4 (v := 1) dX10_lays_109 (by decide) (by decide) rfl ?_
    refine AW_goto 47 dX10_lays_112 (by decide) ?_
    refine AW_sb (rk_sbs (rk_sbs (rk_sbs (rk_sbs (rk_sbs (rk_sbn rk_sb0)))))) ?_
    exact hc _ _ (Option.some.inj hf).symm
  · replace hf := rk_if hf h1
    refine AW_iload_5 dX10_lays_94 ?_
    refine AW_sipush (v := 1000) dX10_lays_96 (by decide) ?_
    refine AW_icmp_eq 107 dX10_lays_99 (by decide) (fun h2 => ?_) (fun h2 => ?_)
    · replace hf := rk_it hf h2
      refine AW_iconst (v := (-1)) dX10_lays_107 (by decide) ?_
      replace hf := rk_bd hf
      obtain ⟨I2, e2, hf⟩ := hf
      refine AW_wr dX10_lays_108 (hM.1 48 (by decide) (by decide)) e2 ?_
      refine AW_iinc_4 (v := 1) dX10_lays_109 (by decide) (by decide) rfl ?_
      refine AW_goto 47 dX10_lays_112 (by decide) ?_
      refine AW_sb (rk_sbs (rk_sbs (rk_sbs (rk_sbs (rk_sbs (rk_sbn rk_sb0)))))) ?_
      exact hc _ _ (Option.some.inj hf).symm
    · replace hf := rk_if hf h2
      refine AW_iload_5 dX10_lays_102 ?_
      refine AW_goto 108 dX10_lays_104 (by decide) ?_
      replace hf := rk_bd hf
      obtain ⟨I3, e3, hf⟩ := hf
      refine AW_wr dX10_lays_108 (hM.1 48 (by decide) (by decide)) e3 ?_
      refine AW_iinc_4 (v := 1) dX10_lays_109 (by decide) (by decide) rfl ?_
      refine AW_goto 47 dX10_lays_112 (by decide) ?_
      refine AW_sb (rk_sbs (rk_sbs (rk_sbs (rk_sbs (rk_sbs (rk_sbn rk_sb0)))))) ?_
      exact hc _ _ (Option.some.inj hf).symm
noncomputable def f_X10_lays_l47 (I : rk_I) (u1 : Int32) (u2 : Int32) (u3 : Int32) (s4 : Int32) : Option ((Int32 × rk_I) ⊕ (Int32 × rk_I)) :=
if (I 31 20) ≤ s4 then (
some (.inr (s4, I))) else (
(rk_rd I 39 24 s4).bind fun x1 =>
if x1 = u1 then (
(f_X10_passes I s4 u3).bind fun x2 =>
f_X10_lays_j80 I u1 u2 u3 s4 x2) else (
f_X10_lays_j80 I u1 u2 u3 s4 1000))
theorem b_X10_lays_l47 {G : rk_G} {l : Launch} {d kc ks : Nat} {n : Nat} {S : rk_Sh} {I : rk_I} {J : rk_J} {R : rk_R} {Q : rk_Q} {u1 : Int32} {u2 : Int32} {u3 : Int32} {s4 : Int32} {r : (Int32 × rk_I) ⊕ (Int32 × rk_I)} (hd : 4 ≤ d) (hM : rk_LM S R) (hf : f_X10_lays_l47 I u1 u2 u3 s4 = some r) (hc : ∀ (w0 : Int32) (I9 : rk_I), r = .inl (w0, I9) → AW G l yX10_lays cX10_lays 6 none d kc ks 47 [some (.ref 31), some (.int u1), some (.int u2), some (.int u3), some (.int w0), none] [] n S I9 J R Q) (he : ∀ (w0 : Int32) (I9 : rk_I), r = .inr (w0, I9) → AW G l yX10_lays cX10_lays 6 none d kc ks 115 [some (.ref 31), some (.int u1), some (.int u2), some (.int u3), some (.int w0), none] [] n S I9 J R Q) :
    AW G l yX10_lays cX10_lays 6 none d kc ks 47 [some (.ref 31), some (.int u1), some (.int u2), some (.int u3), some (.int s4), none] [] n S I J R Q := by
  unfold f_X10_lays_l47 at hf
  refine AW_iload_4 dX10_lays_47 ?_
  refine AW_aload_n0 dX10_lays_49 ?_
  refine AW_getI dX10_lays_50 kf_X10_118 rfl (hM.1 31 (by decide) (by decide)) (by decide) ?_
  refine AW_icmp_ge 115 dX10_lays_53 (by decide) (fun h1 => ?_) (fun h1 => ?_)
  · replace hf := rk_it hf h1
    refine AW_sb (rk_sbs (rk_sbs (rk_sbs (rk_sbs (rk_sbs (rk_sbn rk_sb0)))))) ?_
    exact he _ _ (Option.some.inj hf).symm
  · replace hf := rk_if hf h1
    refine AW_aload_n0 dX10_lays_56 ?_
    refine AW_getR dX10_lays_57 kf_X10_35 rfl (hM.1 31 (by decide) (by decide)) (by decide) (hM.2 31 12 39 rfl) ?_
    refine AW_iload_4 dX10_lays_60 ?_
    replace hf := rk_bd hf
    obtain ⟨x1, e1, hf⟩ := hf
    refine AW_rd dX10_lays_62 (hM.1 39 (by decide) (by decide)) e1 ?_
    refine AW_iload_n1 dX10_lays_63 ?_
    refine AW_icmp_ne 77 dX10_lays_64 (by decide) (fun h2 => ?_) (fun h2 => ?_)
    · replace hf := rk_if hf h2
      refine AW_sipush (v := 1000) dX10_lays_77 (by decide) ?_
      refine AW_sb (rk_sbs (rk_sbs (rk_sbs (rk_sbs (rk_sbs (rk_sbn rk_sb0)))))) ?_
      exact b_X10_lays_j80 (Nat.le_trans (by decide) hd) hM hf hc he
    · replace hf := rk_it hf h2
      refine AW_aload_n0 dX10_lays_67 ?_
      refine AW_iload_4 dX10_lays_68 ?_
      refine AW_iload_n3 dX10_lays_70 ?_
      replace hf := rk_bd hf
      obtain ⟨x2, e2, hf⟩ := hf
      refine AW_iV2iz (w_X10_passes (d := 3) (Nat.le_refl _) hM e2) dX10_lays_71 kl_X10_157 (hM.1 31 (by decide) (by decide)) rfl (Nat.le_trans (by decide) hd) (by decide) (Nat.le_of_ble_eq_true rfl) (fun _ => ?_)
      refine AW_goto 80 dX10_lays_74 (by decide) ?_
      refine AW_sb (rk_sbs (rk_sbs (rk_sbs (rk_sbs (rk_sbs (rk_sbn rk_sb0)))))) ?_
      exact b_X10_lays_j80 (Nat.le_trans (by decide) hd) hM hf hc he
theorem L_X10_lays_w47 {G : rk_G} {l : Launch} {d kc ks : Nat} {n : Nat} {S : rk_Sh} {J : rk_J} {R : rk_R} {Q : rk_Q} {u1 : Int32} {u2 : Int32} {u3 : Int32} {r : Int32 × rk_I} (hd : 4 ≤ d) (hM : rk_LM S R) (he : ∀ (w0 : Int32) (I9 : rk_I), r = (w0, I9) → AW G l yX10_lays cX10_lays 6 none d kc ks 115 [some (.ref 31), some (.int u1), some (.int u2), some (.int u3), some (.int w0), none] [] n S I9 J R Q) :
    ∀ (m9 : Nat) (s4 : Int32) (I : rk_I), rk_loop (fun a9 => f_X10_lays_l47 a9.2 u1 u2 u3 a9.1) m9 (s4, I) = some r → AW G l yX10_lays cX10_lays 6 none d kc ks 47 [some (.ref 31), some (.int u1), some (.int u2), some (.int u3), some (.int s4), none] [] n S I J R Q := by
  intro m9
  induction m9 with
  | zero => intro s4 I hf; cases hf
  | succ m9 ih =>
    intro s4 I hf 
    obtain ⟨r9, hf, hr⟩ := rk_loop_s hf
    exact b_X10_lays_l47 hd hM hf (fun _ _ h9 => by subst h9; exact ih _ _ hr) (fun _ _ h9 => by subst h9; exact he _ _ hr.symm)
noncomputable def f_X10_lays_j171 (I : rk_I) (j4 : Int32) (t0 : Int32) : Option ((Int32 × rk_I) ⊕ (Int32 × rk_I)) :=
(rk_rd I 40 24 j4).bind fun x1 =>
(rk_rd I 47 10 x1).bind fun x2 =>
(rk_wr I 47 10 x1 (x2 - t0)).bind fun I1 =>
(rk_rd I1 41 24 j4).bind fun x3 =>
(rk_rd I1 47 10 x3).bind fun x4 =>
(rk_wr I1 47 10 x3 (x4 + t0)).bind fun I2 =>
(rk_wr I2 48 24 j4 (-1)).bind fun I3 =>
(f_X10_ahead I3).bind fun x5 =>
some (.inl (x5, I3))
theorem b_X10_lays_j171 {G : rk_G} {l : Launch} {d kc ks : Nat} {n : Nat} {S : rk_Sh} {I : rk_I} {J : rk_J} {R : rk_R} {Q : rk_Q} {j4 : Int32} {t0 : Int32} {r : (Int32 × rk_I) ⊕ (Int32 × rk_I)} (hd : 4 ≤ d) (hM : rk_LM S R) (hf : f_X10_lays_j171 I j4 t0 = some r) (hc : ∀ (w0 : Int32) (I9 : rk_I), r = .inl (w0, I9) → AW G l yX10_lays cX10_lays 6 none d kc ks 121 [some (.ref 31), none, none, none, some (.int w0), none] [] n S I9 J R Q) (he : ∀ (w0 : Int32) (I9 : rk_I), r = .inr (w0, I9) → AW G l yX10_lays cX10_lays 6 none d kc ks 224 [some (.ref 31), none, none, none, some (.int w0), none] [] n S I9 J R Q) :
    AW G l yX10_lays cX10_lays 6 none d kc ks 171 [some (.ref 31), none, none, none, some (.int j4), none] [.int t0] n S I J R Q := by
  unfold f_X10_lays_j171 at hf
  refine AW_istore_5 dX10_lays_171 (by decide) rfl ?_
  refine AW_aload_n0 dX10_lays_173 ?_
  refine AW_getR dX10_lays_174 kf_X10_59 rfl (hM.1 31 (by decide) (by decide)) (by decide) (hM.2 31 21 47 rfl) ?_
  refine AW_aload_n0 dX10_lays_177 ?_
  refine AW_getR dX10_lays_178 kf_X10_38 rfl (hM.1 31 (by decide) (by decide)) (by decide) (hM.2 31 13 40 rfl) ?_
  refine AW_iload_4 dX10_lays_181 ?_
  replace hf := rk_bd hf
  obtain ⟨x1, e1, hf⟩ := hf
  refine AW_rd dX10_lays_183 (hM.1 40 (by decide) (by decide)) e1 ?_
  refine AW_dup2 dX10_lays_184 rfl rfl ?_
  replace hf := rk_bd hf
  obtain ⟨x2, e2, hf⟩ := hf
  refine AW_rd dX10_lays_185 (hM.1 47 (by decide) (by decide)) e2 ?_
  refine AW_iload_5 dX10_lays_186 ?_
  refine AW_isub dX10_lays_188 ?_
  replace hf := rk_bd hf
  obtain ⟨I1, e3, hf⟩ := hf
  refine AW_wr dX10_lays_189 (hM.1 47 (by decide) (by decide)) e3 ?_
  refine AW_aload_n0 dX10_lays_190 ?_
  refine AW_getR dX10_lays_191 kf_X10_59 rfl (hM.1 31 (by decide) (by decide)) (by decide) (hM.2 31 21 47 rfl) ?_
  refine AW_aload_n0 dX10_lays_194 ?_
  refine AW_getR dX10_lays_195 kf_X10_41 rfl (hM.1 31 (by decide) (by decide)) (by decide) (hM.2 31 14 41 rfl) ?_
  refine AW_iload_4 dX10_lays_198 ?_
  replace hf := rk_bd hf
  obtain ⟨x3, e4, hf⟩ := hf
  refine AW_rd dX10_lays_200 (hM.1 41 (by decide) (by decide)) e4 ?_
  refine AW_dup2 dX10_lays_201 rfl rfl ?_
  replace hf := rk_bd hf
  obtain ⟨x4, e5, hf⟩ := hf
  refine AW_rd dX10_lays_202 (hM.1 47 (by decide) (by decide)) e5 ?_
  refine AW_iload_5 dX10_lays_203 ?_
  refine AW_iadd dX10_lays_205 ?_
  replace hf := rk_bd hf
  obtain ⟨I2, e6, hf⟩ := hf
  refine AW_wr dX10_lays_206 (hM.1 47 (by decide) (by decide)) e6 ?_
  refine AW_aload_n0 dX10_lays_207 ?_
  refine AW_getR dX10_lays_208 kf_X10_62 rfl (hM.1 31 (by decide) (by decide)) (by decide) (hM.2 31 22 48 rfl) ?_
  refine AW_iload_4 dX10_lays_211 ?_
  refine AW_iconst (v := (-1)) dX10_lays_213 (by decide) ?_
  replace hf := rk_bd hf
  obtain ⟨I3, e7, hf⟩ := hf
  refine AW_wr dX10_lays_214 (hM.1 48 (by decide) (by decide)) e7 ?_
  refine AW_aload_n0 dX10_lays_215 ?_
  replace hf := rk_bd hf
  obtain ⟨x5, e8, hf⟩ := hf
  refine AW_iV0iz (w_X10_ahead (d := 0) hM e8) dX10_lays_216 kl_X10_160 (hM.1 31 (by decide) (by decide)) rfl (Nat.le_trans (by decide) hd) (by decide) (Nat.le_of_ble_eq_true rfl) (fun _ => ?_)
  refine AW_istore_4 dX10_lays_219 (by decide) rfl ?_
  refine AW_goto 121 dX10_lays_221 (by decide) ?_
  refine AW_sb (rk_sbs (rk_sbn (rk_sbn (rk_sbn (rk_sbs (rk_sbn rk_sb0)))))) ?_
  exact hc _ _ (Option.some.inj hf).symm
noncomputable def f_X10_lays_l121 (I : rk_I) (s4 : Int32) : Option ((Int32 × rk_I) ⊕ (Int32 × rk_I)) :=
if s4 = (-1) then (
some (.inr (s4, I))) else (
(rk_rd I 42 24 s4).bind fun x1 =>
(rk_rd I 40 24 s4).bind fun x2 =>
(rk_rd I 47 10 x2).bind fun x3 =>
if x3 ≤ x1 then (
(rk_rd I 40 24 s4).bind fun x4 =>
(rk_rd I 47 10 x4).bind fun x5 =>
f_X10_lays_j171 I s4 x5) else (
(rk_rd I 42 24 s4).bind fun x6 =>
f_X10_lays_j171 I s4 x6))
theorem b_X10_lays_l121 {G : rk_G} {l : Launch} {d kc ks : Nat} {n : Nat} {S : rk_Sh} {I : rk_I} {J : rk_J} {R : rk_R} {Q : rk_Q} {s4 : Int32} {r : (Int32 × rk_I) ⊕ (Int32 × rk_I)} (hd : 4 ≤ d) (hM : rk_LM S R) (hf : f_X10_lays_l121 I s4 = some r) (hc : ∀ (w0 : Int32) (I9 : rk_I), r = .inl (w0, I9) → AW G l yX10_lays cX10_lays 6 none d kc ks 121 [some (.ref 31), none, none, none, some (.int w0), none] [] n S I9 J R Q) (he : ∀ (w0 : Int32) (I9 : rk_I), r = .inr (w0, I9) → AW G l yX10_lays cX10_lays 6 none d kc ks 224 [some (.ref 31), none, none, none, some (.int w0), none] [] n S I9 J R Q) :
    AW G l yX10_lays cX10_lays 6 none d kc ks 121 [some (.ref 31), none, none, none, some (.int s4), none] [] n S I J R Q := by
  unfold f_X10_lays_l121 at hf
  refine AW_iload_4 dX10_lays_121 ?_
  refine AW_iconst (v := (-1)) dX10_lays_123 (by decide) ?_
  refine AW_icmp_eq 224 dX10_lays_124 (by decide) (fun h1 => ?_) (fun h1 => ?_)
  · replace hf := rk_it hf h1
    refine AW_sb (rk_sbs (rk_sbn (rk_sbn (rk_sbn (rk_sbs (rk_sbn rk_sb0)))))) ?_
    exact he _ _ (Option.some.inj hf).symm
  · replace hf := rk_if hf h1
    refine AW_aload_n0 dX10_lays_127 ?_
    refine AW_getR dX10_lays_128 kf_X10_44 rfl (hM.1 31 (by decide) (by decide)) (by decide) (hM.2 31 15 42 rfl) ?_
    refine AW_iload_4 dX10_lays_131 ?_
    replace hf := rk_bd hf
    obtain ⟨x1, e1, hf⟩ := hf
    refine AW_rd dX10_lays_133 (hM.1 42 (by decide) (by decide)) e1 ?_
    refine AW_aload_n0 dX10_lays_134 ?_
    refine AW_getR dX10_lays_135 kf_X10_59 rfl (hM.1 31 (by decide) (by decide)) (by decide) (hM.2 31 21 47 rfl) ?_
    refine AW_aload_n0 dX10_lays_138 ?_
    refine AW_getR dX10_lays_139 kf_X10_38 rfl (hM.1 31 (by decide) (by decide)) (by decide) (hM.2 31 13 40 rfl) ?_
    refine AW_iload_4 dX10_lays_142 ?_
    replace hf := rk_bd hf
    obtain ⟨x2, e2, hf⟩ := hf
    refine AW_rd dX10_lays_144 (hM.1 40 (by decide) (by decide)) e2 ?_
    replace hf := rk_bd hf
    obtain ⟨x3, e3, hf⟩ := hf
    refine AW_rd dX10_lays_145 (hM.1 47 (by decide) (by decide)) e3 ?_
    refine AW_icmp_ge 159 dX10_lays_146 (by decide) (fun h2 => ?_) (fun h2 => ?_)
    · replace hf := rk_it hf h2
      refine AW_aload_n0 dX10_lays_159 ?_
      refine AW_getR dX10_lays_160 kf_X10_59 rfl (hM.1 31 (by decide) (by decide)) (by decide) (hM.2 31 21 47 rfl) ?_
      refine AW_aload_n0 dX10_lays_163 ?_
      refine AW_getR dX10_lays_164 kf_X10_38 rfl (hM.1 31 (by decide) (by decide)) (by decide) (hM.2 31 13 40 rfl) ?_
      refine AW_iload_4 dX10_lays_167 ?_
      replace hf := rk_bd hf
      obtain ⟨x4, e4, hf⟩ := hf
      refine AW_rd dX10_lays_169 (hM.1 40 (by decide) (by decide)) e4 ?_
      replace hf := rk_bd hf
      obtain ⟨x5, e5, hf⟩ := hf
      refine AW_rd dX10_lays_170 (hM.1 47 (by decide) (by decide)) e5 ?_
      refine AW_sb (rk_sbs (rk_sbn (rk_sbn (rk_sbn (rk_sbs (rk_sbn rk_sb0)))))) ?_
      exact b_X10_lays_j171 (Nat.le_trans (by decide) hd) hM hf hc he
    · replace hf := rk_if hf h2
      refine AW_aload_n0 dX10_lays_149 ?_
      refine AW_getR dX10_lays_150 kf_X10_44 rfl (hM.1 31 (by decide) (by decide)) (by decide) (hM.2 31 15 42 rfl) ?_
      refine AW_iload_4 dX10_lays_153 ?_
      replace hf := rk_bd hf
      obtain ⟨x6, e6, hf⟩ := hf
      refine AW_rd dX10_lays_155 (hM.1 42 (by decide) (by decide)) e6 ?_
      refine AW_goto 171 dX10_lays_156 (by decide) ?_
      refine AW_sb (rk_sbs (rk_sbn (rk_sbn (rk_sbn (rk_sbs (rk_sbn rk_sb0)))))) ?_
      exact b_X10_lays_j171 (Nat.le_trans (by decide) hd) hM hf hc he
theorem L_X10_lays_w121 {G : rk_G} {l : Launch} {d kc ks : Nat} {n : Nat} {S : rk_Sh} {J : rk_J} {R : rk_R} {Q : rk_Q}  {r : Int32 × rk_I} (hd : 4 ≤ d) (hM : rk_LM S R) (he : ∀ (w0 : Int32) (I9 : rk_I), r = (w0, I9) → AW G l yX10_lays cX10_lays 6 none d kc ks 224 [some (.ref 31), none, none, none, some (.int w0), none] [] n S I9 J R Q) :
    ∀ (m9 : Nat) (s4 : Int32) (I : rk_I), rk_loop (fun a9 => f_X10_lays_l121 a9.2 a9.1) m9 (s4, I) = some r → AW G l yX10_lays cX10_lays 6 none d kc ks 121 [some (.ref 31), none, none, none, some (.int s4), none] [] n S I J R Q := by
  intro m9
  induction m9 with
  | zero => intro s4 I hf; cases hf
  | succ m9 ih =>
    intro s4 I hf 
    obtain ⟨r9, hf, hr⟩ := rk_loop_s hf
    exact b_X10_lays_l121 hd hM hf (fun _ _ h9 => by subst h9; exact ih _ _ hr) (fun _ _ h9 => by subst h9; exact he _ _ hr.symm)
noncomputable def f_X10_lays (I : rk_I) (a1 : Int32) (a2 : Int32) (a3 : Int32) : Option (rk_I) :=
rk_b2 (rk_while (fun a9 => f_X10_lays_l3 a9.2 a1 a2 a3 a9.1) (0, I)) fun x1 I1 =>
rk_b2 (rk_while (fun a9 => f_X10_lays_l47 a9.2 a1 a2 a3 a9.1) (0, I1)) fun x2 I2 =>
(f_X10_ahead I2).bind fun x3 =>
rk_b2 (rk_while (fun a9 => f_X10_lays_l121 a9.2 a9.1) (x3, I2)) fun x4 I3 =>
some I3
theorem b_X10_lays {G : rk_G} {l : Launch} {d kc ks : Nat} {n : Nat} {S : rk_Sh} {I : rk_I} {J : rk_J} {R : rk_R} {Q : rk_Q} {a1 : Int32} {a2 : Int32} {a3 : Int32} {r : rk_I} (hd : 4 ≤ d) (hM : rk_LM S R) (hf : f_X10_lays I a1 a2 a3 = some r) (hq : ∀ (I9 : rk_I), r = I9 → Q (none) n S I9 J R) :
    AW G l yX10_lays cX10_lays 6 none d kc ks 0 [some (.ref 31), some (.int a1), some (.int a2), some (.int a3), none, none] [] n S I J R Q := by
  unfold f_X10_lays at hf
  refine AW_iconst (v := 0) dX10_lays_0 (by decide) ?_
  refine AW_istore_4 dX10_lays_1 (by decide) rfl ?_
  refine AW_sb (rk_sbs (rk_sbs (rk_sbs (rk_sbs (rk_sbs (rk_sbn rk_sb0)))))) ?_
  replace hf := rk_bd2 hf
  obtain ⟨x1, I1, e1, hf⟩ := hf
  obtain ⟨m1, e1⟩ := rk_while_sp e1
  refine L_X10_lays_w3 (Nat.le_trans (by decide) hd) hM ?_ m1 _ _ e1
  intro x1 I1 h9
  cases h9
  refine AW_iconst (v := 0) dX10_lays_44 (by decide) ?_
  refine AW_istore_4 dX10_lays_45 (by decide) rfl ?_
  refine AW_sb (rk_sbs (rk_sbs (rk_sbs (rk_sbs (rk_sbs (rk_sbn rk_sb0)))))) ?_
  replace hf := rk_bd2 hf
  obtain ⟨x2, I2, e2, hf⟩ := hf
  obtain ⟨m2, e2⟩ := rk_while_sp e2
  refine L_X10_lays_w47 (Nat.le_trans (by decide) hd) hM ?_ m2 _ _ e2
  intro x2 I2 h9
  cases h9
  refine AW_aload_n0 dX10_lays_115 ?_
  replace hf := rk_bd hf
  obtain ⟨x3, e3, hf⟩ := hf
  refine AW_iV0iz (w_X10_ahead (d := 0) hM e3) dX10_lays_116 kl_X10_160 (hM.1 31 (by decide) (by decide)) rfl (Nat.le_trans (by decide) hd) (by decide) (Nat.le_of_ble_eq_true rfl) (fun _ => ?_)
  refine AW_istore_4 dX10_lays_119 (by decide) rfl ?_
  refine AW_sb (rk_sbs (rk_sbn (rk_sbn (rk_sbn (rk_sbs (rk_sbn rk_sb0)))))) ?_
  replace hf := rk_bd2 hf
  obtain ⟨x4, I3, e4, hf⟩ := hf
  obtain ⟨m3, e4⟩ := rk_while_sp e4
  refine L_X10_lays_w121 (Nat.le_trans (by decide) hd) hM ?_ m3 _ _ e4
  intro x4 I3 h9
  cases h9
  exact AW_vret dX10_lays_224 rfl (hq _ (Option.some.inj hf).symm)
theorem w_X10_lays {G : rk_G} {l : Launch} {d : Nat} {n : Nat} {S : rk_Sh} {I : rk_I} {J : rk_J} {R : rk_R} {a1 : Int32} {a2 : Int32} {a3 : Int32} {I8 : rk_I} (hd : 4 ≤ d) (hM : rk_LM S R) (hf : f_X10_lays I a1 a2 a3 = some I8) :
    CW G l yX10_lays cX10_lays 6 none d 0 0 [.ref 31, .int a1, .int a2, .int a3] n S I J R (rk_qv n S I8 J R True) :=
  CW.of (by decide +kernel) (Nat.le_of_ble_eq_true rfl) (rk_sbs (rk_sbs (rk_sbs (rk_sbs (rk_sbe (rk_sbe rk_sb0)))))) (b_X10_lays hd hM hf (fun I9 h9 => by cases h9; exact ⟨rfl, rfl, rfl, rfl, rfl, rfl, trivial⟩))
noncomputable def f_X10_whose (I : rk_I) (a1 : Int32) (a2 : Int32) (a3 : Int32) (a4 : Int32) : Option (Int32 × rk_I) :=
(f_X10_isCargo I a1).bind fun x1 =>
if x1 = 0 then (
some ((-2), I)) else (
(f_X10_isHand a2).bind fun x2 =>
if x2 = 0 then (
some ((-2), I)) else (
(f_X10_isHour a3).bind fun x3 =>
if x3 = 0 then (
some ((-2), I)) else (
(f_X10_in a4.toInt64 0 1).bind fun x4 =>
if x4 = 0 then (
some ((-2), I)) else (
(f_X10_lays I a1 a3 a4).bind fun I1 =>
(rk_rd I1 47 10 a2).bind fun x5 =>
some (x5, I1)))))
theorem b_X10_whose {G : rk_G} {l : Launch} {d kc ks : Nat} {n : Nat} {S : rk_Sh} {I : rk_I} {J : rk_J} {R : rk_R} {Q : rk_Q} {a1 : Int32} {a2 : Int32} {a3 : Int32} {a4 : Int32} {r : Int32 × rk_I} (hd : 5 ≤ d) (hM : rk_LM S R) (hf : f_X10_whose I a1 a2 a3 a4 = some r) (hq : ∀ (v9 : Int32) (I9 : rk_I), r = (v9, I9) → Q (some (.int v9)) n S I9 J R) :
    AW G l yX10_whose cX10_whose 5 (some .int) d kc ks 0 [some (.ref 31), some (.int a1), some (.int a2), some (.int a3), some (.int a4)] [] n S I J R Q := by
  unfold f_X10_whose at hf
  refine AW_aload_n0 dX10_whose_0 ?_
  refine AW_iload_n1 dX10_whose_1 ?_
  replace hf := rk_bd hf
  obtain ⟨x1, e1, hf⟩ := hf
  refine AW_iV1iz (w_X10_isCargo (d := 1) (Nat.le_refl _) hM e1) dX10_whose_2 kl_X10_129 (hM.1 31 (by decide) (by decide)) rfl (Nat.le_trans (by decide) hd) (by decide) (Nat.le_of_ble_eq_true rfl) (fun _ => ?_)
  refine AW_if_eq 33 dX10_whose_5 (by decide) (fun h1 => ?_) (fun h1 => ?_)
  · replace hf := rk_it hf h1
    refine AW_bipush (v := (-2)) dX10_whose_33 (by decide) ?_
    exact AW_iret dX10_whose_35 rfl (hq _ _ (Option.some.inj hf).symm)
  · replace hf := rk_if hf h1
    refine AW_iload_n2 dX10_whose_8 ?_
    replace hf := rk_bd hf
    obtain ⟨x2, e2, hf⟩ := hf
    refine AW_iS1iz (w_X10_isHand (d := 1) (Nat.le_refl _) e2) dX10_whose_9 kl_X10_125 (Nat.le_trans (by decide) hd) (by decide) (Nat.le_of_ble_eq_true rfl) (fun _ => ?_)
    refine AW_if_eq 33 dX10_whose_12 (by decide) (fun h2 => ?_) (fun h2 => ?_)
    · replace hf := rk_it hf h2
      refine AW_bipush (v := (-2)) dX10_whose_33 (by decide) ?_
      exact AW_iret dX10_whose_35 rfl (hq _ _ (Option.some.inj hf).symm)
    · replace hf := rk_if hf h2
      refine AW_iload_n3 dX10_whose_15 ?_
      replace hf := rk_bd hf
      obtain ⟨x3, e3, hf⟩ := hf
      refine AW_iS1iz (w_X10_isHour (d := 1) (Nat.le_refl _) e3) dX10_whose_16 kl_X10_138 (Nat.le_trans (by decide) hd) (by decide) (Nat.le_of_ble_eq_true rfl) (fun _ => ?_)
      refine AW_if_eq 33 dX10_whose_19 (by decide) (fun h3 => ?_) (fun h3 => ?_)
      · replace hf := rk_it hf h3
        refine AW_bipush (v := (-2)) dX10_whose_33 (by decide) ?_
        exact AW_iret dX10_whose_35 rfl (hq _ _ (Option.some.inj hf).symm)
      · replace hf := rk_if hf h3
        refine AW_iload_4 dX10_whose_22 ?_
        refine AW_i2l dX10_whose_24 ?_
        refine AW_lconst (v := 0) dX10_whose_25 (by decide) ?_
        refine AW_lconst (v := 1) dX10_whose_26 (by decide) ?_
        replace hf := rk_bd hf
        obtain ⟨x4, e4, hf⟩ := hf
        refine AW_iS3iz (w_X10_in (d := 0) e4) dX10_whose_27 kl_X10_114 (Nat.le_trans (by decide) hd) (by decide) (Nat.le_of_ble_eq_true rfl) (fun _ => ?_)
        refine AW_if_ne 36 dX10_whose_30 (by decide) (fun h4 => ?_) (fun h4 => ?_)
        · replace hf := rk_if hf h4
          refine AW_aload_n0 dX10_whose_36 ?_
          refine AW_iload_n1 dX10_whose_37 ?_
          refine AW_iload_n3 dX10_whose_38 ?_
          refine AW_iload_4 dX10_whose_39 ?_
          replace hf := rk_bd hf
          obtain ⟨I1, e5, hf⟩ := hf
          refine AW_iV3vz (w_X10_lays (d := 4) (Nat.le_refl _) hM e5) dX10_whose_41 kl_X10_164 (hM.1 31 (by decide) (by decide)) rfl (Nat.le_trans (by decide) hd) (by decide) (Nat.le_of_ble_eq_true rfl) (fun _ => ?_)
          refine AW_aload_n0 dX10_whose_44 ?_
          refine AW_getR dX10_whose_45 kf_X10_59 rfl (hM.1 31 (by decide) (by decide)) (by decide) (hM.2 31 21 47 rfl) ?_
          refine AW_iload_n2 dX10_whose_48 ?_
          replace hf := rk_bd hf
          obtain ⟨x5, e6, hf⟩ := hf
          refine AW_rd dX10_whose_49 (hM.1 47 (by decide) (by decide)) e6 ?_
          exact AW_iret dX10_whose_50 rfl (hq _ _ (Option.some.inj hf).symm)
        · replace hf := rk_it hf h4
          refine AW_bipush (v := (-2)) dX10_whose_33 (by decide) ?_
          exact AW_iret dX10_whose_35 rfl (hq _ _ (Option.some.inj hf).symm)
theorem w_X10_whose {G : rk_G} {l : Launch} {d : Nat} {n : Nat} {S : rk_Sh} {I : rk_I} {J : rk_J} {R : rk_R} {a1 : Int32} {a2 : Int32} {a3 : Int32} {a4 : Int32} {v8 : Int32} {I8 : rk_I} (hd : 5 ≤ d) (hM : rk_LM S R) (hf : f_X10_whose I a1 a2 a3 a4 = some (v8, I8)) :
    CW G l yX10_whose cX10_whose 5 (some .int) d 0 0 [.ref 31, .int a1, .int a2, .int a3, .int a4] n S I J R (rk_qi v8 n S I8 J R True) :=
  CW.of (by decide +kernel) (Nat.le_of_ble_eq_true rfl) (rk_sbs (rk_sbs (rk_sbs (rk_sbs (rk_sbs rk_sb0))))) (b_X10_whose hd hM hf (fun v9 I9 h9 => by cases h9; exact ⟨rfl, rfl, rfl, rfl, rfl, rfl, trivial⟩))
noncomputable def f_X9_upperOf (a0 : Int32) : Option (Int32) :=
if 0 ≤ a0 then (
some (a0 / 1000)) else (
some (-1))
theorem b_X9_upperOf {G : rk_G} {l : Launch} {d kc ks : Nat} {n : Nat} {S : rk_Sh} {I : rk_I} {J : rk_J} {R : rk_R} {Q : rk_Q} {a0 : Int32} {r : Int32} (hf : f_X9_upperOf a0 = some r) (hq : ∀ (v9 : Int32), r = v9 → Q (some (.int v9)) n S I J R) :
    AW G l yX9_upperOf cX9_upperOf 1 (some .int) d kc ks 0 [some (.int a0)] [] n S I J R Q := by
  unfold f_X9_upperOf at hf
  refine AW_iload_n0 dX9_upperOf_0 ?_
  refine AW_if_ge 8 dX9_upperOf_1 (by decide) (fun h1 => ?_) (fun h1 => ?_)
  · replace hf := rk_it hf h1
    refine AW_iload_n0 dX9_upperOf_8 ?_
    refine AW_sipush (v := 1000) dX9_upperOf_9 (by decide) ?_
    refine AW_idiv dX9_upperOf_12 (by decide) ?_
    exact AW_iret dX9_upperOf_13 rfl (hq _ (Option.some.inj hf).symm)
  · replace hf := rk_if hf h1
    refine AW_iconst (v := (-1)) dX9_upperOf_4 (by decide) ?_
    refine AW_goto 13 dX9_upperOf_5 (by decide) ?_
    exact AW_iret dX9_upperOf_13 rfl (hq _ (Option.some.inj hf).symm)
theorem w_X9_upperOf {G : rk_G} {l : Launch} {d : Nat} {n : Nat} {S : rk_Sh} {I : rk_I} {J : rk_J} {R : rk_R} {a0 : Int32} {v8 : Int32} (hf : f_X9_upperOf a0 = some v8) :
    CW G l yX9_upperOf cX9_upperOf 1 (some .int) d 0 0 [.int a0] n S I J R (rk_qi v8 n S I J R True) :=
  CW.of (by decide +kernel) (Nat.le_of_ble_eq_true rfl) (rk_sbs rk_sb0) (b_X9_upperOf hf (fun v9 h9 => by cases h9; exact ⟨rfl, rfl, rfl, rfl, rfl, rfl, trivial⟩))
noncomputable def f_X9_lowerOf (a0 : Int32) : Option (Int32) :=
if 0 ≤ a0 then (
some (rk_md a0 1000)) else (
some (-1))
theorem b_X9_lowerOf {G : rk_G} {l : Launch} {d kc ks : Nat} {n : Nat} {S : rk_Sh} {I : rk_I} {J : rk_J} {R : rk_R} {Q : rk_Q} {a0 : Int32} {r : Int32} (hf : f_X9_lowerOf a0 = some r) (hq : ∀ (v9 : Int32), r = v9 → Q (some (.int v9)) n S I J R) :
    AW G l yX9_lowerOf cX9_lowerOf 1 (some .int) d kc ks 0 [some (.int a0)] [] n S I J R Q := by
  unfold f_X9_lowerOf at hf
  refine AW_iload_n0 dX9_lowerOf_0 ?_
  refine AW_if_ge 8 dX9_lowerOf_1 (by decide) (fun h1 => ?_) (fun h1 => ?_)
  · replace hf := rk_it hf h1
    refine AW_iload_n0 dX9_lowerOf_8 ?_
    refine AW_sipush (v := 1000) dX9_lowerOf_9 (by decide) ?_
    refine AW_md dX9_lowerOf_12 (by decide) ?_
    exact AW_iret dX9_lowerOf_13 rfl (hq _ (Option.some.inj hf).symm)
  · replace hf := rk_if hf h1
    refine AW_iconst (v := (-1)) dX9_lowerOf_4 (by decide) ?_
    refine AW_goto 13 dX9_lowerOf_5 (by decide) ?_
    exact AW_iret dX9_lowerOf_13 rfl (hq _ (Option.some.inj hf).symm)
theorem w_X9_lowerOf {G : rk_G} {l : Launch} {d : Nat} {n : Nat} {S : rk_Sh} {I : rk_I} {J : rk_J} {R : rk_R} {a0 : Int32} {v8 : Int32} (hf : f_X9_lowerOf a0 = some v8) :
    CW G l yX9_lowerOf cX9_lowerOf 1 (some .int) d 0 0 [.int a0] n S I J R (rk_qi v8 n S I J R True) :=
  CW.of (by decide +kernel) (Nat.le_of_ble_eq_true rfl) (rk_sbs rk_sb0) (b_X9_lowerOf hf (fun v9 h9 => by cases h9; exact ⟨rfl, rfl, rfl, rfl, rfl, rfl, trivial⟩))
noncomputable def f_X9_commonDivisor_l7 (s2 : Int32) (s3 : Int32) (s4 : Int32) : Option ((Int32 × Int32 × Int32) ⊕ (Int32 × Int32 × Int32)) :=
if 64 ≤ s4 then (
some (.inr (s2, s3, s4))) else (
if s3 = 0 then (
some (.inr (s2, s3, s4))) else (
(rk_rem s2 s3).bind fun x1 =>
some (.inl (s3, x1, (s4 + 1)))))
theorem b_X9_commonDivisor_l7 {G : rk_G} {l : Launch} {d kc ks : Nat} {n : Nat} {S : rk_Sh} {I : rk_I} {J : rk_J} {R : rk_R} {Q : rk_Q} {s2 : Int32} {s3 : Int32} {s4 : Int32} {r : (Int32 × Int32 × Int32) ⊕ (Int32 × Int32 × Int32)} (hd : 1 ≤ d) (hf : f_X9_commonDivisor_l7 s2 s3 s4 = some r) (hc : ∀ (w0 : Int32) (w1 : Int32) (w2 : Int32), r = .inl (w0, w1, w2) → AW G l yX9_commonDivisor cX9_commonDivisor 6 (some .int) d kc ks 7 [none, none, some (.int w0), some (.int w1), some (.int w2), none] [] n S I J R Q) (he : ∀ (w0 : Int32) (w1 : Int32) (w2 : Int32), r = .inr (w0, w1, w2) → AW G l yX9_commonDivisor cX9_commonDivisor 6 (some .int) d kc ks 34 [none, none, some (.int w0), some (.int w1), some (.int w2), none] [] n S I J R Q) :
    AW G l yX9_commonDivisor cX9_commonDivisor 6 (some .int) d kc ks 7 [none, none, some (.int s2), some (.int s3), some (.int s4), none] [] n S I J R Q := by
  unfold f_X9_commonDivisor_l7 at hf
  refine AW_iload_4 dX9_commonDivisor_7 ?_
  refine AW_bipush (v := 64) dX9_commonDivisor_9 (by decide) ?_
  refine AW_icmp_ge 34 dX9_commonDivisor_11 (by decide) (fun h1 => ?_) (fun h1 => ?_)
  · replace hf := rk_it hf h1
    refine AW_sb (rk_sbn (rk_sbn (rk_sbs (rk_sbs (rk_sbs (rk_sbn rk_sb0)))))) ?_
    exact he _ _ _ (Option.some.inj hf).symm
  · replace hf := rk_if hf h1
    refine AW_iload_n3 dX9_commonDivisor_14 ?_
    refine AW_if_eq 34 dX9_commonDivisor_15 (by decide) (fun h2 => ?_) (fun h2 => ?_)
    · replace hf := rk_it hf h2
      refine AW_sb (rk_sbn (rk_sbn (rk_sbs (rk_sbs (rk_sbs (rk_sbn rk_sb0)))))) ?_
      exact he _ _ _ (Option.some.inj hf).symm
    · replace hf := rk_if hf h2
      refine AW_iload_n2 dX9_commonDivisor_18 ?_
      refine AW_iload_n3 dX9_commonDivisor_19 ?_
      replace hf := rk_bd hf
      obtain ⟨x1, e1, hf⟩ := hf
      refine AW_remN dX9_commonDivisor_20 e1 ?_
      refine AW_istore_5 dX9_commonDivisor_21 (by decide) rfl ?_
      refine AW_iload_n3 dX9_commonDivisor_23 ?_
      refine AW_istore_n2 dX9_commonDivisor_24 (by decide) rfl ?_
      refine AW_iload_5 dX9_commonDivisor_25 ?_
      refine AW_istore_n3 dX9_commonDivisor_27 (by decide) rfl ?_
      refine AW_iinc_4 (v := 1) dX9_commonDivisor_28 (by decide) (by decide) rfl ?_
      refine AW_goto 7 dX9_commonDivisor_31 (by decide) ?_
      refine AW_sb (rk_sbn (rk_sbn (rk_sbs (rk_sbs (rk_sbs (rk_sbn rk_sb0)))))) ?_
      exact hc _ _ _ (Option.some.inj hf).symm
theorem L_X9_commonDivisor_w7 {G : rk_G} {l : Launch} {d kc ks : Nat} {n : Nat} {S : rk_Sh} {I : rk_I} {J : rk_J} {R : rk_R} {Q : rk_Q}  {r : Int32 × Int32 × Int32} (hd : 1 ≤ d) (he : ∀ (w0 : Int32) (w1 : Int32) (w2 : Int32), r = (w0, w1, w2) → AW G l yX9_commonDivisor cX9_commonDivisor 6 (some .int) d kc ks 34 [none, none, some (.int w0), some (.int w1), some (.int w2), none] [] n S I J R Q) :
    ∀ (m9 : Nat) (s2 : Int32) (s3 : Int32) (s4 : Int32) , rk_loop (fun a9 => f_X9_commonDivisor_l7 a9.1 a9.2.1 a9.2.2) m9 (s2, s3, s4) = some r → AW G l yX9_commonDivisor cX9_commonDivisor 6 (some .int) d kc ks 7 [none, none, some (.int s2), some (.int s3), some (.int s4), none] [] n S I J R Q := by
  intro m9
  induction m9 with
  | zero => intro s2 s3 s4 hf; cases hf
  | succ m9 ih =>
    intro s2 s3 s4 hf 
    obtain ⟨r9, hf, hr⟩ := rk_loop_s hf
    exact b_X9_commonDivisor_l7 hd hf (fun _ _ _ h9 => by subst h9; exact ih _ _ _ hr) (fun _ _ _ h9 => by subst h9; exact he _ _ _ hr.symm)
noncomputable def f_X9_commonDivisor (a0 : Int32) (a1 : Int32) : Option (Int32) :=
rk_b3 (rk_while (fun a9 => f_X9_commonDivisor_l7 a9.1 a9.2.1 a9.2.2) (a1, a0, 0)) fun x1 x2 x3 =>
some (rk_max 1 x1)
theorem b_X9_commonDivisor {G : rk_G} {l : Launch} {d kc ks : Nat} {n : Nat} {S : rk_Sh} {I : rk_I} {J : rk_J} {R : rk_R} {Q : rk_Q} {a0 : Int32} {a1 : Int32} {r : Int32} (hd : 1 ≤ d) (hf : f_X9_commonDivisor a0 a1 = some r) (hq : ∀ (v9 : Int32), r = v9 → Q (some (.int v9)) n S I J R) :
    AW G l yX9_commonDivisor cX9_commonDivisor 6 (some .int) d kc ks 0 [some (.int a0), some (.int a1), none, none, none, none] [] n S I J R Q := by
  unfold f_X9_commonDivisor at hf
  refine AW_iload_n1 dX9_commonDivisor_0 ?_
  refine AW_istore_n2 dX9_commonDivisor_1 (by decide) rfl ?_
  refine AW_iload_n0 dX9_commonDivisor_2 ?_
  refine AW_istore_n3 dX9_commonDivisor_3 (by decide) rfl ?_
  refine AW_iconst (v := 0) dX9_commonDivisor_4 (by decide) ?_
  refine AW_istore_4 dX9_commonDivisor_5 (by decide) rfl ?_
  refine AW_sb (rk_sbn (rk_sbn (rk_sbs (rk_sbs (rk_sbs (rk_sbn rk_sb0)))))) ?_
  replace hf := rk_bd3 hf
  obtain ⟨x1, x2, x3, e1, hf⟩ := hf
  obtain ⟨m1, e1⟩ := rk_while_sp e1
  refine L_X9_commonDivisor_w7 (Nat.le_trans (by decide) hd) ?_ m1 _ _ _ e1
  intro x1 x2 x3 h9
  cases h9
  refine AW_iconst (v := 1) dX9_commonDivisor_34 (by decide) ?_
  refine AW_iload_n2 dX9_commonDivisor_35 ?_
  refine AW_mmax dX9_commonDivisor_36 km_X9_186 (Nat.le_trans (by decide) hd) (Nat.le_of_ble_eq_true rfl) ?_
  exact AW_iret dX9_commonDivisor_39 rfl (hq _ (Option.some.inj hf).symm)
theorem w_X9_commonDivisor {G : rk_G} {l : Launch} {d : Nat} {n : Nat} {S : rk_Sh} {I : rk_I} {J : rk_J} {R : rk_R} {a0 : Int32} {a1 : Int32} {v8 : Int32} (hd : 1 ≤ d) (hf : f_X9_commonDivisor a0 a1 = some v8) :
    CW G l yX9_commonDivisor cX9_commonDivisor 6 (some .int) d 0 0 [.int a0, .int a1] n S I J R (rk_qi v8 n S I J R True) :=
  CW.of (by decide +kernel) (Nat.le_of_ble_eq_true rfl) (rk_sbs (rk_sbs (rk_sbe (rk_sbe (rk_sbe (rk_sbe rk_sb0)))))) (b_X9_commonDivisor hd hf (fun v9 h9 => by cases h9; exact ⟨rfl, rfl, rfl, rfl, rfl, rfl, trivial⟩))
noncomputable def f_X9_falls_j44 (S : rk_Sh) (I : rk_I) (R : rk_R) (j2 : Int32) (j3 : Int32) (j4 : Int32) (j5 : Nat) : Option (Int64 × rk_I × rk_R) :=
(f_X9_lowerOf j3).bind fun x1 =>
(rk_ck S j5 0 5).bind fun _ =>
if x1 ≤ (I j5 1) then (
(f_X9_upperOf j3).bind fun x2 =>
rk_b3 (f_X9_heldAt S I R j5 j2 x2 1) fun x3 I1 R1 =>
(f_X9_commonDivisor (x1 * x3) (I1 j5 1)).bind fun x4 =>
if j4 = 0 then (
(rk_div (x1 * x3) x4).bind fun x6 =>
some (x6.toInt64, I1, R1)) else (
(rk_div (I1 j5 1) x4).bind fun x5 =>
some (x5.toInt64, I1, R1))) else (
some ((-4611686018427387904), I, R))
theorem b_X9_falls_j44 {G : rk_G} {l : Launch} {d kc ks : Nat} {n : Nat} {S : rk_Sh} {I : rk_I} {J : rk_J} {R : rk_R} {Q : rk_Q} {j2 : Int32} {j3 : Int32} {j4 : Int32} {j5 : Nat} {r : Int64 × rk_I × rk_R} (hd : 6 ≤ d) (hL : rk_LC S R) (hf : f_X9_falls_j44 S I R j2 j3 j4 j5 = some r) (hq : ∀ (v9 : Int64) (I9 : rk_I) (R9 : rk_R), r = (v9, I9, R9) → rk_LC S R9 → Q (some (.long v9)) n S I9 J R9) :
    AW G l yX9_falls cX9_falls 9 (some .long) d kc ks 44 [some (.ref 0), none, some (.int j2), some (.int j3), some (.int j4), some (.ref j5), none, none, none] [] n S I J R Q := by
  unfold f_X9_falls_j44 at hf
  refine AW_iload_n3 dX9_falls_44 ?_
  replace hf := rk_bd hf
  obtain ⟨x1, e1, hf⟩ := hf
  refine AW_iS1iz (w_X9_lowerOf (d := 0) e1) dX9_falls_45 kl_X9_158 (Nat.le_trans (by decide) hd) (by decide) (Nat.le_of_ble_eq_true rfl) (fun _ => ?_)
  refine AW_istore_6 dX9_falls_48 (by decide) rfl ?_
  refine AW_iload_6 dX9_falls_50 ?_
  refine AW_aload_5 dX9_falls_52 ?_
  replace hf := rk_bd hf
  obtain ⟨_, e2, hf⟩ := hf
  have e2 := rk_ck_sp e2
  refine AW_getI dX9_falls_54 kf_X9_161 rfl e2 (by decide) ?_
  refine AW_icmp_le 64 dX9_falls_57 (by decide) (fun h1 => ?_) (fun h1 => ?_)
  · replace hf := rk_it hf h1
    refine AW_iload_6 dX9_falls_64 ?_
    refine AW_aload_n0 dX9_falls_66 ?_
    refine AW_aload_5 dX9_falls_67 ?_
    refine AW_iload_n2 dX9_falls_69 ?_
    refine AW_iload_n3 dX9_falls_70 ?_
    replace hf := rk_bd hf
    obtain ⟨x2, e3, hf⟩ := hf
    refine AW_iS1iz (w_X9_upperOf (d := 0) e3) dX9_falls_71 kl_X9_153 (Nat.le_trans (by decide) hd) (by decide) (Nat.le_of_ble_eq_true rfl) (fun _ => ?_)
    refine AW_iconst (v := 1) dX9_falls_74 (by decide) ?_
    replace hf := rk_bd3 hf
    obtain ⟨x3, I1, R1, e4, hf⟩ := hf
    refine AW_iV4iz (w_X9_heldAt (d := 5) (Nat.le_refl _) e2 hL e4) dX9_falls_75 kl_X9_149 (hL.1 0 (by decide)) rfl (Nat.le_trans (by decide) hd) (by decide) (Nat.le_of_ble_eq_true rfl) (fun hL1 => ?_)
    refine AW_imul dX9_falls_78 ?_
    refine AW_istore_7 dX9_falls_79 (by decide) rfl ?_
    refine AW_iload_7 dX9_falls_81 ?_
    refine AW_aload_5 dX9_falls_83 ?_
    refine AW_getI dX9_falls_85 kf_X9_161 rfl e2 (by decide) ?_
    replace hf := rk_bd hf
    obtain ⟨x4, e5, hf⟩ := hf
    refine AW_iS2iz (w_X9_commonDivisor (d := 1) (Nat.le_refl _) e5) dX9_falls_88 kl_X9_164 (Nat.le_trans (by decide) hd) (by decide) (Nat.le_of_ble_eq_true rfl) (fun _ => ?_)
    refine AW_istore_8 dX9_falls_91 (by decide) rfl ?_
    refine AW_iload_4 dX9_falls_93 ?_
    refine AW_if_ne 103 dX9_falls_95 (by decide) (fun h2 => ?_) (fun h2 => ?_)
    · replace hf := rk_if hf h2
      refine AW_aload_5 dX9_falls_103 ?_
      refine AW_getI dX9_falls_105 kf_X9_161 rfl e2 (by decide) ?_
      refine AW_iload_8 dX9_falls_108 ?_
      replace hf := rk_bd hf
      obtain ⟨x5, e6, hf⟩ := hf
      refine AW_divN dX9_falls_110 e6 ?_
      refine AW_i2l dX9_falls_111 ?_
      exact AW_lret dX9_falls_112 rfl (hq _ _ _ (Option.some.inj hf).symm hL1)
    · replace hf := rk_it hf h2
      refine AW_iload_7 dX9_falls_98 ?_
      refine AW_goto 108 dX9_falls_100 (by decide) ?_
      refine AW_iload_8 dX9_falls_108 ?_
      replace hf := rk_bd hf
      obtain ⟨x6, e7, hf⟩ := hf
      refine AW_divN dX9_falls_110 e7 ?_
      refine AW_i2l dX9_falls_111 ?_
      exact AW_lret dX9_falls_112 rfl (hq _ _ _ (Option.some.inj hf).symm hL1)
  · replace hf := rk_if hf h1
    refine AW_ldc2 dX9_falls_60 kv_X9_156 ?_
    exact AW_lret dX9_falls_63 rfl (hq _ _ _ (Option.some.inj hf).symm hL)
noncomputable def f_X9_falls (S : rk_Sh) (I : rk_I) (R : rk_R) (a1 : Int32) (a2 : Int32) (a3 : Int32) (a4 : Int32) : Option (Int64 × rk_I × rk_R) :=
(f_X9_cargoAt I R a1).bind fun q1 =>
rk_oc q1 (
some ((-4611686018427387904), I, R)) (fun o1 => (
(f_X9_isHand a2).bind fun x1 =>
if x1 = 0 then (
some ((-4611686018427387904), I, R)) else (
(f_X9_upperOf a3).bind fun x2 =>
(f_X9_isHour x2).bind fun x3 =>
if x3 = 0 then (
some ((-4611686018427387904), I, R)) else (
if a4 = 0 then (
f_X9_falls_j44 S I R a2 a3 a4 o1) else (
if a4 = 1 then (
f_X9_falls_j44 S I R a2 a3 a4 o1) else (
some ((-4611686018427387904), I, R)))))))
theorem b_X9_falls {G : rk_G} {l : Launch} {d kc ks : Nat} {n : Nat} {S : rk_Sh} {I : rk_I} {J : rk_J} {R : rk_R} {Q : rk_Q} {a1 : Int32} {a2 : Int32} {a3 : Int32} {a4 : Int32} {r : Int64 × rk_I × rk_R} (hd : 6 ≤ d) (hL : rk_LC S R) (hf : f_X9_falls S I R a1 a2 a3 a4 = some r) (hq : ∀ (v9 : Int64) (I9 : rk_I) (R9 : rk_R), r = (v9, I9, R9) → rk_LC S R9 → Q (some (.long v9)) n S I9 J R9) :
    AW G l yX9_falls cX9_falls 9 (some .long) d kc ks 0 [some (.ref 0), some (.int a1), some (.int a2), some (.int a3), some (.int a4), none, none, none, none] [] n S I J R Q := by
  unfold f_X9_falls at hf
  refine AW_aload_n0 dX9_falls_0 ?_
  refine AW_iload_n1 dX9_falls_1 ?_
  replace hf := rk_bd hf
  obtain ⟨q1, e1, hf⟩ := hf
  refine AW_iV1oz (w_X9_cargoAt (d := 0) hL e1) dX9_falls_2 kl_X9_109 (hL.1 0 (by decide)) rfl (Nat.le_trans (by decide) hd) (by decide) (Nat.le_of_ble_eq_true rfl) (fun _ => ?_)
  refine AW_astoreO_5 dX9_falls_5 (by decide) rfl ?_
  refine AW_aloadO_5 dX9_falls_7 ?_
  rcases q1 with _ | o1
  · replace hf := rk_oc_n hf
    refine AW_ifnullN 40 dX9_falls_9 (by decide) ?_
    refine AW_ldc2 dX9_falls_40 kv_X9_156 ?_
    exact AW_lret dX9_falls_43 rfl (hq _ _ _ (Option.some.inj hf).symm hL)
  · replace hf := rk_oc_s hf
    refine AW_ifnull dX9_falls_9 ?_
    refine AW_iload_n2 dX9_falls_12 ?_
    replace hf := rk_bd hf
    obtain ⟨x1, e2, hf⟩ := hf
    refine AW_iS1iz (w_X9_isHand (d := 0) e2) dX9_falls_13 kl_X9_100 (Nat.le_trans (by decide) hd) (by decide) (Nat.le_of_ble_eq_true rfl) (fun _ => ?_)
    refine AW_if_eq 40 dX9_falls_16 (by decide) (fun h1 => ?_) (fun h1 => ?_)
    · replace hf := rk_it hf h1
      refine AW_ldc2 dX9_falls_40 kv_X9_156 ?_
      exact AW_lret dX9_falls_43 rfl (hq _ _ _ (Option.some.inj hf).symm hL)
    · replace hf := rk_if hf h1
      refine AW_iload_n3 dX9_falls_19 ?_
      replace hf := rk_bd hf
      obtain ⟨x2, e3, hf⟩ := hf
      refine AW_iS1iz (w_X9_upperOf (d := 0) e3) dX9_falls_20 kl_X9_153 (Nat.le_trans (by decide) hd) (by decide) (Nat.le_of_ble_eq_true rfl) (fun _ => ?_)
      replace hf := rk_bd hf
      obtain ⟨x3, e4, hf⟩ := hf
      refine AW_iS1iz (w_X9_isHour (d := 0) e4) dX9_falls_23 kl_X9_122 (Nat.le_trans (by decide) hd) (by decide) (Nat.le_of_ble_eq_true rfl) (fun _ => ?_)
      refine AW_if_eq 40 dX9_falls_26 (by decide) (fun h2 => ?_) (fun h2 => ?_)
      · replace hf := rk_it hf h2
        refine AW_ldc2 dX9_falls_40 kv_X9_156 ?_
        exact AW_lret dX9_falls_43 rfl (hq _ _ _ (Option.some.inj hf).symm hL)
      · replace hf := rk_if hf h2
        refine AW_iload_4 dX9_falls_29 ?_
        refine AW_if_eq 44 dX9_falls_31 (by decide) (fun h3 => ?_) (fun h3 => ?_)
        · replace hf := rk_it hf h3
          refine AW_sb (rk_sbs (rk_sbn (rk_sbs (rk_sbs (rk_sbs (rk_sbs (rk_sbn (rk_sbn (rk_sbn rk_sb0))))))))) ?_
          exact b_X9_falls_j44 (Nat.le_trans (by decide) hd) hL hf hq
        · replace hf := rk_if hf h3
          refine AW_iload_4 dX9_falls_34 ?_
          refine AW_iconst (v := 1) dX9_falls_36 (by decide) ?_
          refine AW_icmp_eq 44 dX9_falls_37 (by decide) (fun h4 => ?_) (fun h4 => ?_)
          · replace hf := rk_it hf h4
            refine AW_sb (rk_sbs (rk_sbn (rk_sbs (rk_sbs (rk_sbs (rk_sbs (rk_sbn (rk_sbn (rk_sbn rk_sb0))))))))) ?_
            exact b_X9_falls_j44 (Nat.le_trans (by decide) hd) hL hf hq
          · replace hf := rk_if hf h4
            refine AW_ldc2 dX9_falls_40 kv_X9_156 ?_
            exact AW_lret dX9_falls_43 rfl (hq _ _ _ (Option.some.inj hf).symm hL)
theorem w_X9_falls {G : rk_G} {l : Launch} {d : Nat} {n : Nat} {S : rk_Sh} {I : rk_I} {J : rk_J} {R : rk_R} {a1 : Int32} {a2 : Int32} {a3 : Int32} {a4 : Int32} {v8 : Int64} {I8 : rk_I} {R8 : rk_R} (hd : 6 ≤ d) (hL : rk_LC S R) (hf : f_X9_falls S I R a1 a2 a3 a4 = some (v8, I8, R8)) :
    CW G l yX9_falls cX9_falls 9 (some .long) d 0 0 [.ref 0, .int a1, .int a2, .int a3, .int a4] n S I J R (rk_ql v8 n S I8 J R8 (rk_LC S R8)) :=
  CW.of (by decide +kernel) (Nat.le_of_ble_eq_true rfl) (rk_sbs (rk_sbs (rk_sbs (rk_sbs (rk_sbs (rk_sbe (rk_sbe (rk_sbe (rk_sbe rk_sb0))))))))) (b_X9_falls hd hL hf (fun v9 I9 R9 h9 hl9 => by cases h9; exact ⟨rfl, rfl, rfl, rfl, rfl, rfl, hl9⟩))
noncomputable def f_X10_common_l6 (s4 : Int64) (s6 : Int64) : Option ((Int64 × Int64) ⊕ (Int64 × Int64)) :=
if (lg_cmp s6 0) = 0 then (
some (.inr (s4, s6))) else (
(rk_lrem s4 s6).bind fun x1 =>
some (.inl (s6, x1)))
theorem b_X10_common_l6 {G : rk_G} {l : Launch} {d kc ks : Nat} {n : Nat} {S : rk_Sh} {I : rk_I} {J : rk_J} {R : rk_R} {Q : rk_Q} {s4 : Int64} {s6 : Int64} {r : (Int64 × Int64) ⊕ (Int64 × Int64)} (hf : f_X10_common_l6 s4 s6 = some r) (hc : ∀ (w0 : Int64) (w1 : Int64), r = .inl (w0, w1) → AW G l yX10_common cX10_common 10 (some .long) d kc ks 6 [none, none, none, none, some (.long w0), none, some (.long w1), none, none, none] [] n S I J R Q) (he : ∀ (w0 : Int64) (w1 : Int64), r = .inr (w0, w1) → AW G l yX10_common cX10_common 10 (some .long) d kc ks 31 [none, none, none, none, some (.long w0), none, some (.long w1), none, none, none] [] n S I J R Q) :
    AW G l yX10_common cX10_common 10 (some .long) d kc ks 6 [none, none, none, none, some (.long s4), none, some (.long s6), none, none, none] [] n S I J R Q := by
  unfold f_X10_common_l6 at hf
  refine AW_lload_6 dX10_common_6 ?_
  refine AW_lconst (v := 0) dX10_common_8 (by decide) ?_
  refine AW_lcmp dX10_common_9 ?_
  refine AW_if_eq 31 dX10_common_10 (by decide) (fun h1 => ?_) (fun h1 => ?_)
  · replace hf := rk_it hf h1
    refine AW_sb (rk_sbn (rk_sbn (rk_sbn (rk_sbn (rk_sbs (rk_sbn (rk_sbs (rk_sbn (rk_sbn (rk_sbn rk_sb0)))))))))) ?_
    exact he _ _ (Option.some.inj hf).symm
  · replace hf := rk_if hf h1
    refine AW_lload_4 dX10_common_13 ?_
    refine AW_lload_6 dX10_common_15 ?_
    replace hf := rk_bd hf
    obtain ⟨x1, e1, hf⟩ := hf
    refine AW_lremN dX10_common_17 e1 ?_
    refine AW_lstore_8 dX10_common_18 (by decide) rfl ?_
    refine AW_lload_6 dX10_common_20 ?_
    refine AW_lstore_4 dX10_common_22 (by decide) rfl ?_
    refine AW_lload_8 dX10_common_24 ?_
    refine AW_lstore_6 dX10_common_26 (by decide) rfl ?_
    refine AW_goto 6 dX10_common_28 (by decide) ?_
    refine AW_sb (rk_sbn (rk_sbn (rk_sbn (rk_sbn (rk_sbs (rk_sbn (rk_sbs (rk_sbn (rk_sbn (rk_sbn rk_sb0)))))))))) ?_
    exact hc _ _ (Option.some.inj hf).symm
theorem L_X10_common_w6 {G : rk_G} {l : Launch} {d kc ks : Nat} {n : Nat} {S : rk_Sh} {I : rk_I} {J : rk_J} {R : rk_R} {Q : rk_Q}  {r : Int64 × Int64} (he : ∀ (w0 : Int64) (w1 : Int64), r = (w0, w1) → AW G l yX10_common cX10_common 10 (some .long) d kc ks 31 [none, none, none, none, some (.long w0), none, some (.long w1), none, none, none] [] n S I J R Q) :
    ∀ (m9 : Nat) (s4 : Int64) (s6 : Int64) , rk_loop (fun a9 => f_X10_common_l6 a9.1 a9.2) m9 (s4, s6) = some r → AW G l yX10_common cX10_common 10 (some .long) d kc ks 6 [none, none, none, none, some (.long s4), none, some (.long s6), none, none, none] [] n S I J R Q := by
  intro m9
  induction m9 with
  | zero => intro s4 s6 hf; cases hf
  | succ m9 ih =>
    intro s4 s6 hf 
    obtain ⟨r9, hf, hr⟩ := rk_loop_s hf
    exact b_X10_common_l6  hf (fun _ _ h9 => by subst h9; exact ih _ _ hr) (fun _ _ h9 => by subst h9; exact he _ _ hr.symm)
noncomputable def f_X10_common (a0 : Int64) (a1 : Int64) : Option (Int64) :=
rk_b2 (rk_while (fun a9 => f_X10_common_l6 a9.1 a9.2) (a0, a1)) fun x1 x2 =>
some x1
theorem b_X10_common {G : rk_G} {l : Launch} {d kc ks : Nat} {n : Nat} {S : rk_Sh} {I : rk_I} {J : rk_J} {R : rk_R} {Q : rk_Q} {a0 : Int64} {a1 : Int64} {r : Int64} (hf : f_X10_common a0 a1 = some r) (hq : ∀ (v9 : Int64), r = v9 → Q (some (.long v9)) n S I J R) :
    AW G l yX10_common cX10_common 10 (some .long) d kc ks 0 [some (.long a0), none, some (.long a1), none, none, none, none, none, none, none] [] n S I J R Q := by
  unfold f_X10_common at hf
  refine AW_lload_n0 dX10_common_0 ?_
  refine AW_lstore_4 dX10_common_1 (by decide) rfl ?_
  refine AW_lload_n2 dX10_common_3 ?_
  refine AW_lstore_6 dX10_common_4 (by decide) rfl ?_
  refine AW_sb (rk_sbn (rk_sbn (rk_sbn (rk_sbn (rk_sbs (rk_sbn (rk_sbs (rk_sbn (rk_sbn (rk_sbn rk_sb0)))))))))) ?_
  replace hf := rk_bd2 hf
  obtain ⟨x1, x2, e1, hf⟩ := hf
  obtain ⟨m1, e1⟩ := rk_while_sp e1
  refine L_X10_common_w6  ?_ m1 _ _ e1
  intro x1 x2 h9
  cases h9
  refine AW_lload_4 dX10_common_31 ?_
  exact AW_lret dX10_common_33 rfl (hq _ (Option.some.inj hf).symm)
theorem w_X10_common {G : rk_G} {l : Launch} {d : Nat} {n : Nat} {S : rk_Sh} {I : rk_I} {J : rk_J} {R : rk_R} {a0 : Int64} {a1 : Int64} {v8 : Int64} (hf : f_X10_common a0 a1 = some v8) :
    CW G l yX10_common cX10_common 10 (some .long) d 0 0 [.long a0, .long a1] n S I J R (rk_ql v8 n S I J R True) :=
  CW.of (by decide +kernel) (Nat.le_of_ble_eq_true rfl) (rk_sbs (rk_sbs (rk_sbs (rk_sbs (rk_sbe (rk_sbe (rk_sbe (rk_sbe (rk_sbe (rk_sbe rk_sb0)))))))))) (b_X10_common hf (fun v9 h9 => by cases h9; exact ⟨rfl, rfl, rfl, rfl, rfl, rfl, trivial⟩))
noncomputable def f_X10_falls (I : rk_I) (a1 : Int32) (a2 : Int32) (a3 : Int32) (a4 : Int32) : Option (Int64 × rk_I) :=
(f_X10_isCargo I a1).bind fun x1 =>
if x1 = 0 then (
some ((-4611686018427387904), I)) else (
(f_X10_isHand a2).bind fun x2 =>
if x2 = 0 then (
some ((-4611686018427387904), I)) else (
if a3 < 0 then (
some ((-4611686018427387904), I)) else (
(f_X10_isHour (a3 / 1000)).bind fun x3 =>
if x3 = 0 then (
some ((-4611686018427387904), I)) else (
(rk_rd I 35 4 a1).bind fun x4 =>
if x4 < (rk_md a3 1000) then (
some ((-4611686018427387904), I)) else (
(f_X10_in a4.toInt64 0 1).bind fun x5 =>
if x5 = 0 then (
some ((-4611686018427387904), I)) else (
(f_X10_lays I a1 (a3 / 1000) 1).bind fun I1 =>
(rk_rd I1 47 10 a2).bind fun x6 =>
if a4 = 0 then (
(rk_rd I1 35 4 a1).bind fun x11 =>
(f_X10_common ((rk_md a3 1000).toInt64 * x6.toInt64) x11.toInt64).bind fun x12 =>
(rk_ldiv ((rk_md a3 1000).toInt64 * x6.toInt64) x12).bind fun x13 =>
some (x13, I1)) else (
(rk_rd I1 35 4 a1).bind fun x7 =>
(rk_rd I1 35 4 a1).bind fun x8 =>
(f_X10_common ((rk_md a3 1000).toInt64 * x6.toInt64) x8.toInt64).bind fun x9 =>
(rk_ldiv x7.toInt64 x9).bind fun x10 =>
some (x10, I1))))))))
theorem b_X10_falls {G : rk_G} {l : Launch} {d kc ks : Nat} {n : Nat} {S : rk_Sh} {I : rk_I} {J : rk_J} {R : rk_R} {Q : rk_Q} {a1 : Int32} {a2 : Int32} {a3 : Int32} {a4 : Int32} {r : Int64 × rk_I} (hd : 5 ≤ d) (hM : rk_LM S R) (hf : f_X10_falls I a1 a2 a3 a4 = some r) (hq : ∀ (v9 : Int64) (I9 : rk_I), r = (v9, I9) → Q (some (.long v9)) n S I9 J R) :
    AW G l yX10_falls cX10_falls 7 (some .long) d kc ks 0 [some (.ref 31), some (.int a1), some (.int a2), some (.int a3), some (.int a4), none, none] [] n S I J R Q := by
  unfold f_X10_falls at hf
  refine AW_aload_n0 dX10_falls_0 ?_
  refine AW_iload_n1 dX10_falls_1 ?_
  replace hf := rk_bd hf
  obtain ⟨x1, e1, hf⟩ := hf
  refine AW_iV1iz (w_X10_isCargo (d := 1) (Nat.le_refl _) hM e1) dX10_falls_2 kl_X10_129 (hM.1 31 (by decide) (by decide)) rfl (Nat.le_trans (by decide) hd) (by decide) (Nat.le_of_ble_eq_true rfl) (fun _ => ?_)
  refine AW_if_eq 55 dX10_falls_5 (by decide) (fun h1 => ?_) (fun h1 => ?_)
  · replace hf := rk_it hf h1
    refine AW_ldc2 dX10_falls_55 kv_X10_168 ?_
    exact AW_lret dX10_falls_58 rfl (hq _ _ (Option.some.inj hf).symm)
  · replace hf := rk_if hf h1
    refine AW_iload_n2 dX10_falls_8 ?_
    replace hf := rk_bd hf
    obtain ⟨x2, e2, hf⟩ := hf
    refine AW_iS1iz (w_X10_isHand (d := 1) (Nat.le_refl _) e2) dX10_falls_9 kl_X10_125 (Nat.le_trans (by decide) hd) (by decide) (Nat.le_of_ble_eq_true rfl) (fun _ => ?_)
    refine AW_if_eq 55 dX10_falls_12 (by decide) (fun h2 => ?_) (fun h2 => ?_)
    · replace hf := rk_it hf h2
      refine AW_ldc2 dX10_falls_55 kv_X10_168 ?_
      exact AW_lret dX10_falls_58 rfl (hq _ _ (Option.some.inj hf).symm)
    · replace hf := rk_if hf h2
      refine AW_iload_n3 dX10_falls_15 ?_
      refine AW_if_lt 55 dX10_falls_16 (by decide) (fun h3 => ?_) (fun h3 => ?_)
      · replace hf := rk_it hf h3
        refine AW_ldc2 dX10_falls_55 kv_X10_168 ?_
        exact AW_lret dX10_falls_58 rfl (hq _ _ (Option.some.inj hf).symm)
      · replace hf := rk_if hf h3
        refine AW_iload_n3 dX10_falls_19 ?_
        refine AW_sipush (v := 1000) dX10_falls_20 (by decide) ?_
        refine AW_idiv dX10_falls_23 (by decide) ?_
        replace hf := rk_bd hf
        obtain ⟨x3, e3, hf⟩ := hf
        refine AW_iS1iz (w_X10_isHour (d := 1) (Nat.le_refl _) e3) dX10_falls_24 kl_X10_138 (Nat.le_trans (by decide) hd) (by decide) (Nat.le_of_ble_eq_true rfl) (fun _ => ?_)
        refine AW_if_eq 55 dX10_falls_27 (by decide) (fun h4 => ?_) (fun h4 => ?_)
        · replace hf := rk_it hf h4
          refine AW_ldc2 dX10_falls_55 kv_X10_168 ?_
          exact AW_lret dX10_falls_58 rfl (hq _ _ (Option.some.inj hf).symm)
        · replace hf := rk_if hf h4
          refine AW_iload_n3 dX10_falls_30 ?_
          refine AW_sipush (v := 1000) dX10_falls_31 (by decide) ?_
          refine AW_md dX10_falls_34 (by decide) ?_
          refine AW_aload_n0 dX10_falls_35 ?_
          refine AW_getR dX10_falls_36 kf_X10_23 rfl (hM.1 31 (by decide) (by decide)) (by decide) (hM.2 31 7 35 rfl) ?_
          refine AW_iload_n1 dX10_falls_39 ?_
          replace hf := rk_bd hf
          obtain ⟨x4, e4, hf⟩ := hf
          refine AW_rd dX10_falls_40 (hM.1 35 (by decide) (by decide)) e4 ?_
          refine AW_icmp_gt 55 dX10_falls_41 (by decide) (fun h5 => ?_) (fun h5 => ?_)
          · replace hf := rk_it hf h5
            refine AW_ldc2 dX10_falls_55 kv_X10_168 ?_
            exact AW_lret dX10_falls_58 rfl (hq _ _ (Option.some.inj hf).symm)
          · replace hf := rk_if hf h5
            refine AW_iload_4 dX10_falls_44 ?_
            refine AW_i2l dX10_falls_46 ?_
            refine AW_lconst (v := 0) dX10_falls_47 (by decide) ?_
            refine AW_lconst (v := 1) dX10_falls_48 (by decide) ?_
            replace hf := rk_bd hf
            obtain ⟨x5, e5, hf⟩ := hf
            refine AW_iS3iz (w_X10_in (d := 0) e5) dX10_falls_49 kl_X10_114 (Nat.le_trans (by decide) hd) (by decide) (Nat.le_of_ble_eq_true rfl) (fun _ => ?_)
            refine AW_if_ne 59 dX10_falls_52 (by decide) (fun h6 => ?_) (fun h6 => ?_)
            · replace hf := rk_if hf h6
              refine AW_aload_n0 dX10_falls_59 ?_
              refine AW_iload_n1 dX10_falls_60 ?_
              refine AW_iload_n3 dX10_falls_61 ?_
              refine AW_sipush (v := 1000) dX10_falls_62 (by decide) ?_
              refine AW_idiv dX10_falls_65 (by decide) ?_
              refine AW_iconst (v := 1) dX10_falls_66 (by decide) ?_
              replace hf := rk_bd hf
              obtain ⟨I1, e6, hf⟩ := hf
              refine AW_iV3vz (w_X10_lays (d := 4) (Nat.le_refl _) hM e6) dX10_falls_67 kl_X10_164 (hM.1 31 (by decide) (by decide)) rfl (Nat.le_trans (by decide) hd) (by decide) (Nat.le_of_ble_eq_true rfl) (fun _ => ?_)
              refine AW_iload_n3 dX10_falls_70 ?_
              refine AW_sipush (v := 1000) dX10_falls_71 (by decide) ?_
              refine AW_md dX10_falls_74 (by decide) ?_
              refine AW_i2l dX10_falls_75 ?_
              refine AW_aload_n0 dX10_falls_76 ?_
              refine AW_getR dX10_falls_77 kf_X10_59 rfl (hM.1 31 (by decide) (by decide)) (by decide) (hM.2 31 21 47 rfl) ?_
              refine AW_iload_n2 dX10_falls_80 ?_
              replace hf := rk_bd hf
              obtain ⟨x6, e7, hf⟩ := hf
              refine AW_rd dX10_falls_81 (hM.1 47 (by decide) (by decide)) e7 ?_
              refine AW_i2l dX10_falls_82 ?_
              refine AW_lmul dX10_falls_83 ?_
              refine AW_lstore_5 dX10_falls_84 (by decide) rfl ?_
              refine AW_iload_4 dX10_falls_86 ?_
              refine AW_if_ne 96 dX10_falls_88 (by decide) (fun h7 => ?_) (fun h7 => ?_)
              · replace hf := rk_if hf h7
                refine AW_aload_n0 dX10_falls_96 ?_
                refine AW_getR dX10_falls_97 kf_X10_23 rfl (hM.1 31 (by decide) (by decide)) (by decide) (hM.2 31 7 35 rfl) ?_
                refine AW_iload_n1 dX10_falls_100 ?_
                replace hf := rk_bd hf
                obtain ⟨x7, e8, hf⟩ := hf
                refine AW_rd dX10_falls_101 (hM.1 35 (by decide) (by decide)) e8 ?_
                refine AW_i2l dX10_falls_102 ?_
                refine AW_lload_5 dX10_falls_103 ?_
                refine AW_aload_n0 dX10_falls_105 ?_
                refine AW_getR dX10_falls_106 kf_X10_23 rfl (hM.1 31 (by decide) (by decide)) (by decide) (hM.2 31 7 35 rfl) ?_
                refine AW_iload_n1 dX10_falls_109 ?_
                replace hf := rk_bd hf
                obtain ⟨x8, e9, hf⟩ := hf
                refine AW_rd dX10_falls_110 (hM.1 35 (by decide) (by decide)) e9 ?_
                refine AW_i2l dX10_falls_111 ?_
                replace hf := rk_bd hf
                obtain ⟨x9, e10, hf⟩ := hf
                refine AW_iS2lz (w_X10_common (d := 0) e10) dX10_falls_112 kl_X10_170 (Nat.le_trans (by decide) hd) (by decide) (Nat.le_of_ble_eq_true rfl) (fun _ => ?_)
                replace hf := rk_bd hf
                obtain ⟨x10, e11, hf⟩ := hf
                refine AW_ldivN dX10_falls_115 e11 ?_
                exact AW_lret dX10_falls_116 rfl (hq _ _ (Option.some.inj hf).symm)
              · replace hf := rk_it hf h7
                refine AW_lload_5 dX10_falls_91 ?_
                refine AW_goto 103 dX10_falls_93 (by decide) ?_
                refine AW_lload_5 dX10_falls_103 ?_
                refine AW_aload_n0 dX10_falls_105 ?_
                refine AW_getR dX10_falls_106 kf_X10_23 rfl (hM.1 31 (by decide) (by decide)) (by decide) (hM.2 31 7 35 rfl) ?_
                refine AW_iload_n1 dX10_falls_109 ?_
                replace hf := rk_bd hf
                obtain ⟨x11, e12, hf⟩ := hf
                refine AW_rd dX10_falls_110 (hM.1 35 (by decide) (by decide)) e12 ?_
                refine AW_i2l dX10_falls_111 ?_
                replace hf := rk_bd hf
                obtain ⟨x12, e13, hf⟩ := hf
                refine AW_iS2lz (w_X10_common (d := 0) e13) dX10_falls_112 kl_X10_170 (Nat.le_trans (by decide) hd) (by decide) (Nat.le_of_ble_eq_true rfl) (fun _ => ?_)
                replace hf := rk_bd hf
                obtain ⟨x13, e14, hf⟩ := hf
                refine AW_ldivN dX10_falls_115 e14 ?_
                exact AW_lret dX10_falls_116 rfl (hq _ _ (Option.some.inj hf).symm)
            · replace hf := rk_it hf h6
              refine AW_ldc2 dX10_falls_55 kv_X10_168 ?_
              exact AW_lret dX10_falls_58 rfl (hq _ _ (Option.some.inj hf).symm)
theorem w_X10_falls {G : rk_G} {l : Launch} {d : Nat} {n : Nat} {S : rk_Sh} {I : rk_I} {J : rk_J} {R : rk_R} {a1 : Int32} {a2 : Int32} {a3 : Int32} {a4 : Int32} {v8 : Int64} {I8 : rk_I} (hd : 5 ≤ d) (hM : rk_LM S R) (hf : f_X10_falls I a1 a2 a3 a4 = some (v8, I8)) :
    CW G l yX10_falls cX10_falls 7 (some .long) d 0 0 [.ref 31, .int a1, .int a2, .int a3, .int a4] n S I J R (rk_ql v8 n S I8 J R True) :=
  CW.of (by decide +kernel) (Nat.le_of_ble_eq_true rfl) (rk_sbs (rk_sbs (rk_sbs (rk_sbs (rk_sbs (rk_sbe (rk_sbe rk_sb0))))))) (b_X10_falls hd hM hf (fun v9 I9 h9 => by cases h9; exact ⟨rfl, rfl, rfl, rfl, rfl, rfl, trivial⟩))
noncomputable def f_X1_nextHour (I : rk_I)  : Option (Int32) :=
if (I 12 3) ≤ (I 12 4) then (
some 1000) else (
(rk_rd I 15 24 (I 12 4)).bind fun x1 =>
some x1)
theorem b_X1_nextHour {G : rk_G} {l : Launch} {d kc ks : Nat} {n : Nat} {S : rk_Sh} {I : rk_I} {J : rk_J} {R : rk_R} {Q : rk_Q}  {r : Int32} (hL : rk_LC S R) (hf : f_X1_nextHour I = some r) (hq : ∀ (v9 : Int32), r = v9 → Q (some (.int v9)) n S I J R) :
    AW G l yX1_nextHour cX1_nextHour 1 (some .int) d kc ks 0 [some (.ref 12)] [] n S I J R Q := by
  unfold f_X1_nextHour at hf
  refine AW_aload_n0 dX1_nextHour_0 ?_
  refine AW_getI dX1_nextHour_1 kf_X1_28 rfl (hL.1 12 (by decide)) (by decide) ?_
  refine AW_aload_n0 dX1_nextHour_4 ?_
  refine AW_getI dX1_nextHour_5 kf_X1_24 rfl (hL.1 12 (by decide)) (by decide) ?_
  refine AW_icmp_ge 23 dX1_nextHour_8 (by decide) (fun h1 => ?_) (fun h1 => ?_)
  · replace hf := rk_it hf h1
    refine AW_sipush (v := 1000) dX1_nextHour_23 (by decide) ?_
    exact AW_iret dX1_nextHour_26 rfl (hq _ (Option.some.inj hf).symm)
  · replace hf := rk_if hf h1
    refine AW_aload_n0 dX1_nextHour_11 ?_
    refine AW_getR dX1_nextHour_12 kf_X1_21 rfl (hL.1 12 (by decide)) (by decide) (hL.2 12 2 15 rfl) ?_
    refine AW_aload_n0 dX1_nextHour_15 ?_
    refine AW_getI dX1_nextHour_16 kf_X1_28 rfl (hL.1 12 (by decide)) (by decide) ?_
    replace hf := rk_bd hf
    obtain ⟨x1, e1, hf⟩ := hf
    refine AW_rd dX1_nextHour_19 (hL.1 15 (by decide)) e1 ?_
    refine AW_goto 26 dX1_nextHour_20 (by decide) ?_
    exact AW_iret dX1_nextHour_26 rfl (hq _ (Option.some.inj hf).symm)
theorem w_X1_nextHour {G : rk_G} {l : Launch} {d : Nat} {n : Nat} {S : rk_Sh} {I : rk_I} {J : rk_J} {R : rk_R}  {v8 : Int32} (hL : rk_LC S R) (hf : f_X1_nextHour I = some v8) :
    CW G l yX1_nextHour cX1_nextHour 1 (some .int) d 0 0 [.ref 12] n S I J R (rk_qi v8 n S I J R True) :=
  CW.of (by decide +kernel) (Nat.le_of_ble_eq_true rfl) (rk_sbs rk_sb0) (b_X1_nextHour hL hf (fun v9 h9 => by cases h9; exact ⟨rfl, rfl, rfl, rfl, rfl, rfl, trivial⟩))
noncomputable def f_X9_between_l105 (S : rk_Sh) (I : rk_I) (R : rk_R) (u2 : Int32) (u4 : Int32) (u7 : Int32) (s8 : Int32) (s9 : Int32) (s10 : Int32) : Option ((Int32 × Int32 × Int32 × rk_I) ⊕ (Int32 × Int32 × Int32 × rk_I)) :=
if 24 ≤ s10 then (
some (.inr (s8, s9, s10, I))) else (
(f_X1_nextHour I).bind fun x1 =>
if u7 < x1 then (
some (.inr (s8, s9, s10, I))) else (
(f_X1_nextHour I).bind fun x2 =>
(f_X1_runTo S I R x2).bind fun I1 =>
(rk_rd I1 13 10 u2).bind fun x3 =>
(rk_rd I1 13 10 u2).bind fun x4 =>
some (.inl ((rk_min s8 x3), (rk_max s9 x4), (s10 + 1), I1))))
theorem b_X9_between_l105 {G : rk_G} {l : Launch} {d kc ks : Nat} {n : Nat} {S : rk_Sh} {I : rk_I} {J : rk_J} {R : rk_R} {Q : rk_Q} {u2 : Int32} {u4 : Int32} {u7 : Int32} {s8 : Int32} {s9 : Int32} {s10 : Int32} {r : (Int32 × Int32 × Int32 × rk_I) ⊕ (Int32 × Int32 × Int32 × rk_I)} (hd : 5 ≤ d) (hL : rk_LC S R) (hf : f_X9_between_l105 S I R u2 u4 u7 s8 s9 s10 = some r) (hc : ∀ (w0 : Int32) (w1 : Int32) (w2 : Int32) (I9 : rk_I), r = .inl (w0, w1, w2, I9) → AW G l yX9_between cX9_between 11 (some .int) d kc ks 105 [some (.ref 0), none, some (.int u2), none, some (.int u4), none, none, some (.int u7), some (.int w0), some (.int w1), some (.int w2)] [] n S I9 J R Q) (he : ∀ (w0 : Int32) (w1 : Int32) (w2 : Int32) (I9 : rk_I), r = .inr (w0, w1, w2, I9) → AW G l yX9_between cX9_between 11 (some .int) d kc ks 176 [some (.ref 0), none, some (.int u2), none, some (.int u4), none, none, some (.int u7), some (.int w0), some (.int w1), some (.int w2)] [] n S I9 J R Q) :
    AW G l yX9_between cX9_between 11 (some .int) d kc ks 105 [some (.ref 0), none, some (.int u2), none, some (.int u4), none, none, some (.int u7), some (.int s8), some (.int s9), some (.int s10)] [] n S I J R Q := by
  unfold f_X9_between_l105 at hf
  refine AW_iload_10 dX9_between_105 ?_
  refine AW_bipush (v := 24) dX9_between_107 (by decide) ?_
  refine AW_icmp_ge 176 dX9_between_109 (by decide) (fun h1 => ?_) (fun h1 => ?_)
  · replace hf := rk_it hf h1
    refine AW_sb (rk_sbs (rk_sbn (rk_sbs (rk_sbn (rk_sbs (rk_sbn (rk_sbn (rk_sbs (rk_sbs (rk_sbs (rk_sbs rk_sb0))))))))))) ?_
    exact he _ _ _ _ (Option.some.inj hf).symm
  · replace hf := rk_if hf h1
    refine AW_aload_n0 dX9_between_112 ?_
    refine AW_getR dX9_between_113 kf_X9_44 rfl (hL.1 0 (by decide)) (by decide) (hL.2 0 9 12 rfl) ?_
    replace hf := rk_bd hf
    obtain ⟨x1, e1, hf⟩ := hf
    refine AW_iV0iz (w_X1_nextHour (d := 0) hL e1) dX9_between_116 kl_X9_178 (hL.1 12 (by decide)) rfl (Nat.le_trans (by decide) hd) (by decide) (Nat.le_of_ble_eq_true rfl) (fun _ => ?_)
    refine AW_iload_7 dX9_between_119 ?_
    refine AW_icmp_gt 176 dX9_between_121 (by decide) (fun h2 => ?_) (fun h2 => ?_)
    · replace hf := rk_it hf h2
      refine AW_sb (rk_sbs (rk_sbn (rk_sbs (rk_sbn (rk_sbs (rk_sbn (rk_sbn (rk_sbs (rk_sbs (rk_sbs (rk_sbs rk_sb0))))))))))) ?_
      exact he _ _ _ _ (Option.some.inj hf).symm
    · replace hf := rk_if hf h2
      refine AW_aload_n0 dX9_between_124 ?_
      refine AW_getR dX9_between_125 kf_X9_44 rfl (hL.1 0 (by decide)) (by decide) (hL.2 0 9 12 rfl) ?_
      refine AW_aload_n0 dX9_between_128 ?_
      refine AW_getR dX9_between_129 kf_X9_44 rfl (hL.1 0 (by decide)) (by decide) (hL.2 0 9 12 rfl) ?_
      replace hf := rk_bd hf
      obtain ⟨x2, e2, hf⟩ := hf
      refine AW_iV0iz (w_X1_nextHour (d := 0) hL e2) dX9_between_132 kl_X9_178 (hL.1 12 (by decide)) rfl (Nat.le_trans (by decide) hd) (by decide) (Nat.le_of_ble_eq_true rfl) (fun _ => ?_)
      replace hf := rk_bd hf
      obtain ⟨I1, e3, hf⟩ := hf
      refine AW_iV1vz (w_X1_runTo (d := 1) (Nat.le_refl _) hL e3) dX9_between_135 kl_X9_172 (hL.1 12 (by decide)) rfl (Nat.le_trans (by decide) hd) (by decide) (Nat.le_of_ble_eq_true rfl) (fun _ => ?_)
      refine AW_iload_8 dX9_between_138 ?_
      refine AW_aload_n0 dX9_between_140 ?_
      refine AW_getR dX9_between_141 kf_X9_44 rfl (hL.1 0 (by decide)) (by decide) (hL.2 0 9 12 rfl) ?_
      refine AW_getR dX9_between_144 kf_X9_175 rfl (hL.1 12 (by decide)) (by decide) (hL.2 12 0 13 rfl) ?_
      refine AW_iload_n2 dX9_between_147 ?_
      replace hf := rk_bd hf
      obtain ⟨x3, e4, hf⟩ := hf
      refine AW_rd dX9_between_148 (hL.1 13 (by decide)) e4 ?_
      refine AW_mmin dX9_between_149 km_X9_181 (Nat.le_trans (by decide) hd) (Nat.le_of_ble_eq_true rfl) ?_
      refine AW_istore_8 dX9_between_152 (by decide) rfl ?_
      refine AW_iload_9 dX9_between_154 ?_
      refine AW_aload_n0 dX9_between_156 ?_
      refine AW_getR dX9_between_157 kf_X9_44 rfl (hL.1 0 (by decide)) (by decide) (hL.2 0 9 12 rfl) ?_
      refine AW_getR dX9_between_160 kf_X9_175 rfl (hL.1 12 (by decide)) (by decide) (hL.2 12 0 13 rfl) ?_
      refine AW_iload_n2 dX9_between_163 ?_
      replace hf := rk_bd hf
      obtain ⟨x4, e5, hf⟩ := hf
      refine AW_rd dX9_between_164 (hL.1 13 (by decide)) e5 ?_
      refine AW_mmax dX9_between_165 km_X9_186 (Nat.le_trans (by decide) hd) (Nat.le_of_ble_eq_true rfl) ?_
      refine AW_istore_9 dX9_between_168 (by decide) rfl ?_
      refine AW_iinc_10 (v := 1) dX9_between_170 (by decide) (by decide) rfl ?_
      refine AW_goto 105 dX9_between_173 (by decide) ?_
      refine AW_sb (rk_sbs (rk_sbn (rk_sbs (rk_sbn (rk_sbs (rk_sbn (rk_sbn (rk_sbs (rk_sbs (rk_sbs (rk_sbs rk_sb0))))))))))) ?_
      exact hc _ _ _ _ (Option.some.inj hf).symm
theorem L_X9_between_w105 {G : rk_G} {l : Launch} {d kc ks : Nat} {n : Nat} {S : rk_Sh} {J : rk_J} {R : rk_R} {Q : rk_Q} {u2 : Int32} {u4 : Int32} {u7 : Int32} {r : Int32 × Int32 × Int32 × rk_I} (hd : 5 ≤ d) (hL : rk_LC S R) (he : ∀ (w0 : Int32) (w1 : Int32) (w2 : Int32) (I9 : rk_I), r = (w0, w1, w2, I9) → AW G l yX9_between cX9_between 11 (some .int) d kc ks 176 [some (.ref 0), none, some (.int u2), none, some (.int u4), none, none, some (.int u7), some (.int w0), some (.int w1), some (.int w2)] [] n S I9 J R Q) :
    ∀ (m9 : Nat) (s8 : Int32) (s9 : Int32) (s10 : Int32) (I : rk_I), rk_loop (fun a9 => f_X9_between_l105 S a9.2.2.2 R u2 u4 u7 a9.1 a9.2.1 a9.2.2.1) m9 (s8, s9, s10, I) = some r → AW G l yX9_between cX9_between 11 (some .int) d kc ks 105 [some (.ref 0), none, some (.int u2), none, some (.int u4), none, none, some (.int u7), some (.int s8), some (.int s9), some (.int s10)] [] n S I J R Q := by
  intro m9
  induction m9 with
  | zero => intro s8 s9 s10 I hf; cases hf
  | succ m9 ih =>
    intro s8 s9 s10 I hf 
    obtain ⟨r9, hf, hr⟩ := rk_loop_s hf
    exact b_X9_between_l105 hd hL hf (fun _ _ _ _ h9 => by subst h9; exact ih _ _ _ _ hr) (fun _ _ _ _ h9 => by subst h9; exact he _ _ _ _ hr.symm)
noncomputable def f_X9_between_j60 (S : rk_Sh) (I : rk_I) (R : rk_R) (j2 : Int32) (j4 : Int32) (j5 : Nat) (j6 : Int32) (j7 : Int32) : Option (Int32 × rk_I × rk_R) :=
rk_b2 (f_X1_open S I R j5 (I 0 3) 1) fun I1 R1 =>
(rk_ck S j5 0 5).bind fun _ =>
(f_X1_runTo S I1 R1 j6).bind fun I2 =>
(rk_rd I2 13 10 j2).bind fun x1 =>
rk_b4 (rk_while (fun a9 => f_X9_between_l105 S a9.2.2.2 R1 j2 j4 j7 a9.1 a9.2.1 a9.2.2.1) (x1, x1, 0, I2)) fun x2 x3 x4 I3 =>
if j4 = 0 then (
some (x2, I3, R1)) else (
some (x3, I3, R1))
theorem b_X9_between_j60 {G : rk_G} {l : Launch} {d kc ks : Nat} {n : Nat} {S : rk_Sh} {I : rk_I} {J : rk_J} {R : rk_R} {Q : rk_Q} {j2 : Int32} {j4 : Int32} {j5 : Nat} {j6 : Int32} {j7 : Int32} {r : Int32 × rk_I × rk_R} (hd : 5 ≤ d) (hL : rk_LC S R) (hf : f_X9_between_j60 S I R j2 j4 j5 j6 j7 = some r) (hq : ∀ (v9 : Int32) (I9 : rk_I) (R9 : rk_R), r = (v9, I9, R9) → rk_LC S R9 → Q (some (.int v9)) n S I9 J R9) :
    AW G l yX9_between cX9_between 11 (some .int) d kc ks 60 [some (.ref 0), none, some (.int j2), none, some (.int j4), some (.ref j5), some (.int j6), some (.int j7), none, none, none] [] n S I J R Q := by
  unfold f_X9_between_j60 at hf
  refine AW_aload_n0 dX9_between_60 ?_
  refine AW_getR dX9_between_61 kf_X9_44 rfl (hL.1 0 (by decide)) (by decide) (hL.2 0 9 12 rfl) ?_
  refine AW_aload_5 dX9_between_64 ?_
  refine AW_aload_n0 dX9_between_66 ?_
  refine AW_getR dX9_between_67 kf_X9_17 rfl (hL.1 0 (by decide)) (by decide) (hL.2 0 2 2 rfl) ?_
  refine AW_aload_n0 dX9_between_70 ?_
  refine AW_getI dX9_between_71 kf_X9_125 rfl (hL.1 0 (by decide)) (by decide) ?_
  refine AW_iconst (v := 1) dX9_between_74 (by decide) ?_
  replace hf := rk_bd2 hf
  obtain ⟨I1, R1, e1, hf⟩ := hf
  replace hf := rk_bd hf
  obtain ⟨_, e2, hf⟩ := hf
  have e2 := rk_ck_sp e2
  refine AW_iV4vz (w_X1_open (d := 4) (Nat.le_refl _) e2 hL e1) dX9_between_75 kl_X9_168 (hL.1 12 (by decide)) rfl (Nat.le_trans (by decide) hd) (by decide) (Nat.le_of_ble_eq_true rfl) (fun hL1 => ?_)
  refine AW_aload_n0 dX9_between_78 ?_
  refine AW_getR dX9_between_79 kf_X9_44 rfl (hL1.1 0 (by decide)) (by decide) (hL1.2 0 9 12 rfl) ?_
  refine AW_iload_6 dX9_between_82 ?_
  replace hf := rk_bd hf
  obtain ⟨I2, e3, hf⟩ := hf
  refine AW_iV1vz (w_X1_runTo (d := 1) (Nat.le_refl _) hL1 e3) dX9_between_84 kl_X9_172 (hL1.1 12 (by decide)) rfl (Nat.le_trans (by decide) hd) (by decide) (Nat.le_of_ble_eq_true rfl) (fun _ => ?_)
  refine AW_aload_n0 dX9_between_87 ?_
  refine AW_getR dX9_between_88 kf_X9_44 rfl (hL1.1 0 (by decide)) (by decide) (hL1.2 0 9 12 rfl) ?_
  refine AW_getR dX9_between_91 kf_X9_175 rfl (hL1.1 12 (by decide)) (by decide) (hL1.2 12 0 13 rfl) ?_
  refine AW_iload_n2 dX9_between_94 ?_
  replace hf := rk_bd hf
  obtain ⟨x1, e4, hf⟩ := hf
  refine AW_rd dX9_between_95 (hL1.1 13 (by decide)) e4 ?_
  refine AW_istore_8 dX9_between_96 (by decide) rfl ?_
  refine AW_iload_8 dX9_between_98 ?_
  refine AW_istore_9 dX9_between_100 (by decide) rfl ?_
  refine AW_iconst (v := 0) dX9_between_102 (by decide) ?_
  refine AW_istore_10 dX9_between_103 (by decide) rfl ?_
  refine AW_sb (rk_sbs (rk_sbn (rk_sbs (rk_sbn (rk_sbs (rk_sbn (rk_sbn (rk_sbs (rk_sbs (rk_sbs (rk_sbs rk_sb0))))))))))) ?_
  replace hf := rk_bd4 hf
  obtain ⟨x2, x3, x4, I3, e5, hf⟩ := hf
  obtain ⟨m1, e5⟩ := rk_while_sp e5
  refine L_X9_between_w105 (Nat.le_trans (by decide) hd) hL1 ?_ m1 _ _ _ _ e5
  intro x2 x3 x4 I3 h9
  cases h9
  refine AW_iload_4 dX9_between_176 ?_
  refine AW_if_ne 186 dX9_between_178 (by decide) (fun h1 => ?_) (fun h1 => ?_)
  · replace hf := rk_if hf h1
    refine AW_iload_9 dX9_between_186 ?_
    exact AW_iret dX9_between_188 rfl (hq _ _ _ (Option.some.inj hf).symm hL1)
  · replace hf := rk_it hf h1
    refine AW_iload_8 dX9_between_181 ?_
    refine AW_goto 188 dX9_between_183 (by decide) ?_
    exact AW_iret dX9_between_188 rfl (hq _ _ _ (Option.some.inj hf).symm hL1)
noncomputable def f_X9_between (S : rk_Sh) (I : rk_I) (R : rk_R) (a1 : Int32) (a2 : Int32) (a3 : Int32) (a4 : Int32) : Option (Int32 × rk_I × rk_R) :=
(f_X9_cargoAt I R a1).bind fun q1 =>
(f_X9_upperOf a3).bind fun x1 =>
(f_X9_lowerOf a3).bind fun x2 =>
rk_oc q1 (
some ((-2), I, R)) (fun o1 => (
(f_X9_isHand a2).bind fun x3 =>
if x3 = 0 then (
some ((-2), I, R)) else (
(f_X9_isHour x1).bind fun x4 =>
if x4 = 0 then (
some ((-2), I, R)) else (
if x2 < x1 then (
some ((-2), I, R)) else (
if a4 = 0 then (
f_X9_between_j60 S I R a2 a4 o1 x1 x2) else (
if a4 = 1 then (
f_X9_between_j60 S I R a2 a4 o1 x1 x2) else (
some ((-2), I, R))))))))
theorem b_X9_between {G : rk_G} {l : Launch} {d kc ks : Nat} {n : Nat} {S : rk_Sh} {I : rk_I} {J : rk_J} {R : rk_R} {Q : rk_Q} {a1 : Int32} {a2 : Int32} {a3 : Int32} {a4 : Int32} {r : Int32 × rk_I × rk_R} (hd : 5 ≤ d) (hL : rk_LC S R) (hf : f_X9_between S I R a1 a2 a3 a4 = some r) (hq : ∀ (v9 : Int32) (I9 : rk_I) (R9 : rk_R), r = (v9, I9, R9) → rk_LC S R9 → Q (some (.int v9)) n S I9 J R9) :
    AW G l yX9_between cX9_between 11 (some .int) d kc ks 0 [some (.ref 0), some (.int a1), some (.int a2), some (.int a3), some (.int a4), none, none, none, none, none, none] [] n S I J R Q := by
  unfold f_X9_between at hf
  refine AW_aload_n0 dX9_between_0 ?_
  refine AW_iload_n1 dX9_between_1 ?_
  replace hf := rk_bd hf
  obtain ⟨q1, e1, hf⟩ := hf
  refine AW_iV1oz (w_X9_cargoAt (d := 0) hL e1) dX9_between_2 kl_X9_109 (hL.1 0 (by decide)) rfl (Nat.le_trans (by decide) hd) (by decide) (Nat.le_of_ble_eq_true rfl) (fun _ => ?_)
  refine AW_astoreO_5 dX9_between_5 (by decide) rfl ?_
  refine AW_iload_n3 dX9_between_7 ?_
  replace hf := rk_bd hf
  obtain ⟨x1, e2, hf⟩ := hf
  refine AW_iS1iz (w_X9_upperOf (d := 0) e2) dX9_between_8 kl_X9_153 (Nat.le_trans (by decide) hd) (by decide) (Nat.le_of_ble_eq_true rfl) (fun _ => ?_)
  refine AW_istore_6 dX9_between_11 (by decide) (rk_oneO _) ?_
  refine AW_iload_n3 dX9_between_13 ?_
  replace hf := rk_bd hf
  obtain ⟨x2, e3, hf⟩ := hf
  refine AW_iS1iz (w_X9_lowerOf (d := 0) e3) dX9_between_14 kl_X9_158 (Nat.le_trans (by decide) hd) (by decide) (Nat.le_of_ble_eq_true rfl) (fun _ => ?_)
  refine AW_istore_7 dX9_between_17 (by decide) rfl ?_
  refine AW_aloadO_5 dX9_between_19 ?_
  rcases q1 with _ | o1
  · replace hf := rk_oc_n hf
    refine AW_ifnullN 57 dX9_between_21 (by decide) ?_
    refine AW_bipush (v := (-2)) dX9_between_57 (by decide) ?_
    exact AW_iret dX9_between_59 rfl (hq _ _ _ (Option.some.inj hf).symm hL)
  · replace hf := rk_oc_s hf
    refine AW_ifnull dX9_between_21 ?_
    refine AW_iload_n2 dX9_between_24 ?_
    replace hf := rk_bd hf
    obtain ⟨x3, e4, hf⟩ := hf
    refine AW_iS1iz (w_X9_isHand (d := 0) e4) dX9_between_25 kl_X9_100 (Nat.le_trans (by decide) hd) (by decide) (Nat.le_of_ble_eq_true rfl) (fun _ => ?_)
    refine AW_if_eq 57 dX9_between_28 (by decide) (fun h1 => ?_) (fun h1 => ?_)
    · replace hf := rk_it hf h1
      refine AW_bipush (v := (-2)) dX9_between_57 (by decide) ?_
      exact AW_iret dX9_between_59 rfl (hq _ _ _ (Option.some.inj hf).symm hL)
    · replace hf := rk_if hf h1
      refine AW_iload_6 dX9_between_31 ?_
      replace hf := rk_bd hf
      obtain ⟨x4, e5, hf⟩ := hf
      refine AW_iS1iz (w_X9_isHour (d := 0) e5) dX9_between_33 kl_X9_122 (Nat.le_trans (by decide) hd) (by decide) (Nat.le_of_ble_eq_true rfl) (fun _ => ?_)
      refine AW_if_eq 57 dX9_between_36 (by decide) (fun h2 => ?_) (fun h2 => ?_)
      · replace hf := rk_it hf h2
        refine AW_bipush (v := (-2)) dX9_between_57 (by decide) ?_
        exact AW_iret dX9_between_59 rfl (hq _ _ _ (Option.some.inj hf).symm hL)
      · replace hf := rk_if hf h2
        refine AW_iload_7 dX9_between_39 ?_
        refine AW_iload_6 dX9_between_41 ?_
        refine AW_icmp_lt 57 dX9_between_43 (by decide) (fun h3 => ?_) (fun h3 => ?_)
        · replace hf := rk_it hf h3
          refine AW_bipush (v := (-2)) dX9_between_57 (by decide) ?_
          exact AW_iret dX9_between_59 rfl (hq _ _ _ (Option.some.inj hf).symm hL)
        · replace hf := rk_if hf h3
          refine AW_iload_4 dX9_between_46 ?_
          refine AW_if_eq 60 dX9_between_48 (by decide) (fun h4 => ?_) (fun h4 => ?_)
          · replace hf := rk_it hf h4
            refine AW_sb (rk_sbs (rk_sbn (rk_sbs (rk_sbn (rk_sbs (rk_sbs (rk_sbs (rk_sbs (rk_sbn (rk_sbn (rk_sbn rk_sb0))))))))))) ?_
            exact b_X9_between_j60 (Nat.le_trans (by decide) hd) hL hf hq
          · replace hf := rk_if hf h4
            refine AW_iload_4 dX9_between_51 ?_
            refine AW_iconst (v := 1) dX9_between_53 (by decide) ?_
            refine AW_icmp_eq 60 dX9_between_54 (by decide) (fun h5 => ?_) (fun h5 => ?_)
            · replace hf := rk_it hf h5
              refine AW_sb (rk_sbs (rk_sbn (rk_sbs (rk_sbn (rk_sbs (rk_sbs (rk_sbs (rk_sbs (rk_sbn (rk_sbn (rk_sbn rk_sb0))))))))))) ?_
              exact b_X9_between_j60 (Nat.le_trans (by decide) hd) hL hf hq
            · replace hf := rk_if hf h5
              refine AW_bipush (v := (-2)) dX9_between_57 (by decide) ?_
              exact AW_iret dX9_between_59 rfl (hq _ _ _ (Option.some.inj hf).symm hL)
theorem w_X9_between {G : rk_G} {l : Launch} {d : Nat} {n : Nat} {S : rk_Sh} {I : rk_I} {J : rk_J} {R : rk_R} {a1 : Int32} {a2 : Int32} {a3 : Int32} {a4 : Int32} {v8 : Int32} {I8 : rk_I} {R8 : rk_R} (hd : 5 ≤ d) (hL : rk_LC S R) (hf : f_X9_between S I R a1 a2 a3 a4 = some (v8, I8, R8)) :
    CW G l yX9_between cX9_between 11 (some .int) d 0 0 [.ref 0, .int a1, .int a2, .int a3, .int a4] n S I J R (rk_qi v8 n S I8 J R8 (rk_LC S R8)) :=
  CW.of (by decide +kernel) (Nat.le_of_ble_eq_true rfl) (rk_sbs (rk_sbs (rk_sbs (rk_sbs (rk_sbs (rk_sbe (rk_sbe (rk_sbe (rk_sbe (rk_sbe (rk_sbe rk_sb0))))))))))) (b_X9_between hd hL hf (fun v9 I9 R9 h9 hl9 => by cases h9; exact ⟨rfl, rfl, rfl, rfl, rfl, rfl, hl9⟩))
noncomputable def f_X10_between_l97 (I : rk_I) (u1 : Int32) (u2 : Int32) (u3 : Int32) (u4 : Int32) (u5 : Int32) (u6 : Int32) (s7 : Int32) (s8 : Int32) : Option ((Int32 × Int32) ⊕ (Int32 × Int32)) :=
if (I 31 20) ≤ s8 then (
some (.inr (s7, s8))) else (
if s7 = 0 then (
(rk_rd I 39 24 s8).bind fun x1 =>
if x1 = u1 then (
(f_X10_passes I s8 1).bind fun x2 =>
if x2 = u6 then (
some (.inl (1, (s8 + 1)))) else (
some (.inl (0, (s8 + 1))))) else (
some (.inl (0, (s8 + 1))))) else (
some (.inl (1, (s8 + 1)))))
theorem b_X10_between_l97 {G : rk_G} {l : Launch} {d kc ks : Nat} {n : Nat} {S : rk_Sh} {I : rk_I} {J : rk_J} {R : rk_R} {Q : rk_Q} {u1 : Int32} {u2 : Int32} {u3 : Int32} {u4 : Int32} {u5 : Int32} {u6 : Int32} {s7 : Int32} {s8 : Int32} {r : (Int32 × Int32) ⊕ (Int32 × Int32)} (hd : 5 ≤ d) (hM : rk_LM S R) (hf : f_X10_between_l97 I u1 u2 u3 u4 u5 u6 s7 s8 = some r) (hc : ∀ (w0 : Int32) (w1 : Int32), r = .inl (w0, w1) → AW G l yX10_between cX10_between 9 (some .int) d kc ks 97 [some (.ref 31), some (.int u1), some (.int u2), some (.int u3), some (.int u4), some (.int u5), some (.int u6), some (.int w0), some (.int w1)] [] n S I J R Q) (he : ∀ (w0 : Int32) (w1 : Int32), r = .inr (w0, w1) → AW G l yX10_between cX10_between 9 (some .int) d kc ks 147 [some (.ref 31), some (.int u1), some (.int u2), some (.int u3), some (.int u4), some (.int u5), some (.int u6), some (.int w0), some (.int w1)] [] n S I J R Q) :
    AW G l yX10_between cX10_between 9 (some .int) d kc ks 97 [some (.ref 31), some (.int u1), some (.int u2), some (.int u3), some (.int u4), some (.int u5), some (.int u6), some (.int s7), some (.int s8)] [] n S I J R Q := by
  unfold f_X10_between_l97 at hf
  refine AW_iload_8 dX10_between_97 ?_
  refine AW_aload_n0 dX10_between_99 ?_
  refine AW_getI dX10_between_100 kf_X10_118 rfl (hM.1 31 (by decide) (by decide)) (by decide) ?_
  refine AW_icmp_ge 147 dX10_between_103 (by decide) (fun h1 => ?_) (fun h1 => ?_)
  · replace hf := rk_it hf h1
    refine AW_sb (rk_sbs (rk_sbs (rk_sbs (rk_sbs (rk_sbs (rk_sbs (rk_sbs (rk_sbs (rk_sbs rk_sb0))))))))) ?_
    exact he _ _ (Option.some.inj hf).symm
  · replace hf := rk_if hf h1
    refine AW_iload_7 dX10_between_106 ?_
    refine AW_if_ne 134 dX10_between_108 (by decide) (fun h2 => ?_) (fun h2 => ?_)
    · replace hf := rk_if hf h2
      refine AW_iconst (v := 1) dX10_between_134 (by decide) ?_
      refine AW_goto 139 dX10_between_135 (by decide) ?_
      refine AW_istore_7 dX10_between_139 (by decide) rfl ?_
      refine AW_iinc_8 (v := 1) dX10_between_141 (by decide) (by decide) rfl ?_
      refine AW_goto 97 dX10_between_144 (by decide) ?_
      refine AW_sb (rk_sbs (rk_sbs (rk_sbs (rk_sbs (rk_sbs (rk_sbs (rk_sbs (rk_sbs (rk_sbs rk_sb0))))))))) ?_
      exact hc _ _ (Option.some.inj hf).symm
    · replace hf := rk_it hf h2
      refine AW_aload_n0 dX10_between_111 ?_
      refine AW_getR dX10_between_112 kf_X10_35 rfl (hM.1 31 (by decide) (by decide)) (by decide) (hM.2 31 12 39 rfl) ?_
      refine AW_iload_8 dX10_between_115 ?_
      replace hf := rk_bd hf
      obtain ⟨x1, e1, hf⟩ := hf
      refine AW_rd dX10_between_117 (hM.1 39 (by decide) (by decide)) e1 ?_
      refine AW_iload_n1 dX10_between_118 ?_
      refine AW_icmp_ne 138 dX10_between_119 (by decide) (fun h3 => ?_) (fun h3 => ?_)
      · replace hf := rk_if hf h3
        refine AW_iconst (v := 0) dX10_between_138 (by decide) ?_
        refine AW_istore_7 dX10_between_139 (by decide) rfl ?_
        refine AW_iinc_8 (v := 1) dX10_between_141 (by decide) (by decide) rfl ?_
        refine AW_goto 97 dX10_between_144 (by decide) ?_
        refine AW_sb (rk_sbs (rk_sbs (rk_sbs (rk_sbs (rk_sbs (rk_sbs (rk_sbs (rk_sbs (rk_sbs rk_sb0))))))))) ?_
        exact hc _ _ (Option.some.inj hf).symm
      · replace hf := rk_it hf h3
        refine AW_aload_n0 dX10_between_122 ?_
        refine AW_iload_8 dX10_between_123 ?_
        refine AW_iconst (v := 1) dX10_between_125 (by decide) ?_
        replace hf := rk_bd hf
        obtain ⟨x2, e2, hf⟩ := hf
        refine AW_iV2iz (w_X10_passes (d := 3) (Nat.le_refl _) hM e2) dX10_between_126 kl_X10_157 (hM.1 31 (by decide) (by decide)) rfl (Nat.le_trans (by decide) hd) (by decide) (Nat.le_of_ble_eq_true rfl) (fun _ => ?_)
        refine AW_iload_6 dX10_between_129 ?_
        refine AW_icmp_ne 138 dX10_between_131 (by decide) (fun h4 => ?_) (fun h4 => ?_)
        · replace hf := rk_if hf h4
          refine AW_iconst (v := 0) dX10_between_138 (by decide) ?_
          refine AW_istore_7 dX10_between_139 (by decide) rfl ?_
          refine AW_iinc_8 (v := 1) dX10_between_141 (by decide) (by decide) rfl ?_
          refine AW_goto 97 dX10_between_144 (by decide) ?_
          refine AW_sb (rk_sbs (rk_sbs (rk_sbs (rk_sbs (rk_sbs (rk_sbs (rk_sbs (rk_sbs (rk_sbs rk_sb0))))))))) ?_
          exact hc _ _ (Option.some.inj hf).symm
        · replace hf := rk_it hf h4
          refine AW_iconst (v := 1) dX10_between_134 (by decide) ?_
          refine AW_goto 139 dX10_between_135 (by decide) ?_
          refine AW_istore_7 dX10_between_139 (by decide) rfl ?_
          refine AW_iinc_8 (v := 1) dX10_between_141 (by decide) (by decide) rfl ?_
          refine AW_goto 97 dX10_between_144 (by decide) ?_
          refine AW_sb (rk_sbs (rk_sbs (rk_sbs (rk_sbs (rk_sbs (rk_sbs (rk_sbs (rk_sbs (rk_sbs rk_sb0))))))))) ?_
          exact hc _ _ (Option.some.inj hf).symm
theorem L_X10_between_w97 {G : rk_G} {l : Launch} {d kc ks : Nat} {n : Nat} {S : rk_Sh} {I : rk_I} {J : rk_J} {R : rk_R} {Q : rk_Q} {u1 : Int32} {u2 : Int32} {u3 : Int32} {u4 : Int32} {u5 : Int32} {u6 : Int32} {r : Int32 × Int32} (hd : 5 ≤ d) (hM : rk_LM S R) (he : ∀ (w0 : Int32) (w1 : Int32), r = (w0, w1) → AW G l yX10_between cX10_between 9 (some .int) d kc ks 147 [some (.ref 31), some (.int u1), some (.int u2), some (.int u3), some (.int u4), some (.int u5), some (.int u6), some (.int w0), some (.int w1)] [] n S I J R Q) :
    ∀ (m9 : Nat) (s7 : Int32) (s8 : Int32) , rk_loop (fun a9 => f_X10_between_l97 I u1 u2 u3 u4 u5 u6 a9.1 a9.2) m9 (s7, s8) = some r → AW G l yX10_between cX10_between 9 (some .int) d kc ks 97 [some (.ref 31), some (.int u1), some (.int u2), some (.int u3), some (.int u4), some (.int u5), some (.int u6), some (.int s7), some (.int s8)] [] n S I J R Q := by
  intro m9
  induction m9 with
  | zero => intro s7 s8 hf; cases hf
  | succ m9 ih =>
    intro s7 s8 hf 
    obtain ⟨r9, hf, hr⟩ := rk_loop_s hf
    exact b_X10_between_l97 hd hM hf (fun _ _ h9 => by subst h9; exact ih _ _ hr) (fun _ _ h9 => by subst h9; exact he _ _ hr.symm)
noncomputable def f_X10_between_j92 (I : rk_I) (u1 : Int32) (u2 : Int32) (u3 : Int32) (u4 : Int32) (j5 : Int32) (j6 : Int32) (t0 : Int32) : Option ((Int32 × Int32 × rk_I) ⊕ (Int32 × Int32 × rk_I)) :=
rk_b2 (rk_while (fun a9 => f_X10_between_l97 I u1 u2 u3 u4 j5 j6 a9.1 a9.2) (t0, 0)) fun x1 x2 =>
if x1 = 0 then (
some (.inl (j5, (j6 + 1), I))) else (
(f_X10_lays I u1 j6 1).bind fun I1 =>
if j5 = (-1) then (
(rk_rd I1 47 10 u2).bind fun x3 =>
some (.inl (x3, (j6 + 1), I1))) else (
if u4 = 0 then (
(rk_rd I1 47 10 u2).bind fun x6 =>
if j5 ≤ x6 then (
some (.inl (j5, (j6 + 1), I1))) else (
(rk_rd I1 47 10 u2).bind fun x7 =>
some (.inl (x7, (j6 + 1), I1)))) else (
(rk_rd I1 47 10 u2).bind fun x4 =>
if x4 ≤ j5 then (
some (.inl (j5, (j6 + 1), I1))) else (
(rk_rd I1 47 10 u2).bind fun x5 =>
some (.inl (x5, (j6 + 1), I1))))))
theorem b_X10_between_j92 {G : rk_G} {l : Launch} {d kc ks : Nat} {n : Nat} {S : rk_Sh} {I : rk_I} {J : rk_J} {R : rk_R} {Q : rk_Q} {u1 : Int32} {u2 : Int32} {u3 : Int32} {u4 : Int32} {j5 : Int32} {j6 : Int32} {t0 : Int32} {r : (Int32 × Int32 × rk_I) ⊕ (Int32 × Int32 × rk_I)} (hd : 5 ≤ d) (hM : rk_LM S R) (hf : f_X10_between_j92 I u1 u2 u3 u4 j5 j6 t0 = some r) (hc : ∀ (w0 : Int32) (w1 : Int32) (I9 : rk_I), r = .inl (w0, w1, I9) → AW G l yX10_between cX10_between 9 (some .int) d kc ks 67 [some (.ref 31), some (.int u1), some (.int u2), some (.int u3), some (.int u4), some (.int w0), some (.int w1), none, none] [] n S I9 J R Q) (he : ∀ (w0 : Int32) (w1 : Int32) (I9 : rk_I), r = .inr (w0, w1, I9) → AW G l yX10_between cX10_between 9 (some .int) d kc ks 213 [some (.ref 31), some (.int u1), some (.int u2), some (.int u3), some (.int u4), some (.int w0), some (.int w1), none, none] [] n S I9 J R Q) :
    AW G l yX10_between cX10_between 9 (some .int) d kc ks 92 [some (.ref 31), some (.int u1), some (.int u2), some (.int u3), some (.int u4), some (.int j5), some (.int j6), none, none] [.int t0] n S I J R Q := by
  unfold f_X10_between_j92 at hf
  refine AW_istore_7 dX10_between_92 (by decide) rfl ?_
  refine AW_iconst (v := 0) dX10_between_94 (by decide) ?_
  refine AW_istore_8 dX10_between_95 (by decide) rfl ?_
  refine AW_sb (rk_sbs (rk_sbs (rk_sbs (rk_sbs (rk_sbs (rk_sbs (rk_sbs (rk_sbs (rk_sbs rk_sb0))))))))) ?_
  replace hf := rk_bd2 hf
  obtain ⟨x1, x2, e1, hf⟩ := hf
  obtain ⟨m1, e1⟩ := rk_while_sp e1
  refine L_X10_between_w97 (Nat.le_trans (by decide) hd) hM ?_ m1 _ _ e1
  intro x1 x2 h9
  cases h9
  refine AW_iload_7 dX10_between_147 ?_
  refine AW_if_ne 155 dX10_between_149 (by decide) (fun h1 => ?_) (fun h1 => ?_)
  · replace hf := rk_if hf h1
    refine AW_aload_n0 dX10_between_155 ?_
    refine AW_iload_n1 dX10_between_156 ?_
    refine AW_iload_6 dX10_between_157 ?_
    refine AW_iconst (v := 1) dX10_between_159 (by decide) ?_
    replace hf := rk_bd hf
    obtain ⟨I1, e2, hf⟩ := hf
    refine AW_iV3vz (w_X10_lays (d := 4) (Nat.le_refl _) hM e2) dX10_between_160 kl_X10_164 (hM.1 31 (by decide) (by decide)) rfl (Nat.le_trans (by decide) hd) (by decide) (Nat.le_of_ble_eq_true rfl) (fun _ => ?_)
    refine AW_iload_5 dX10_between_163 ?_
    refine AW_iconst (v := (-1)) dX10_between_165 (by decide) ?_
    refine AW_icmp_eq 199 dX10_between_166 (by decide) (fun h2 => ?_) (fun h2 => ?_)
    · replace hf := rk_it hf h2
      refine AW_aload_n0 dX10_between_199 ?_
      refine AW_getR dX10_between_200 kf_X10_59 rfl (hM.1 31 (by decide) (by decide)) (by decide) (hM.2 31 21 47 rfl) ?_
      refine AW_iload_n2 dX10_between_203 ?_
      replace hf := rk_bd hf
      obtain ⟨x3, e3, hf⟩ := hf
      refine AW_rd dX10_between_204 (hM.1 47 (by decide) (by decide)) e3 ?_
      refine AW_istore_5 dX10_between_205 (by decide) rfl ?_
      refine AW_iinc_6 (v := 1) dX10_between_207 (by decide) (by decide) rfl ?_
      refine AW_goto 67 dX10_between_210 (by decide) ?_
      refine AW_sb (rk_sbs (rk_sbs (rk_sbs (rk_sbs (rk_sbs (rk_sbs (rk_sbs (rk_sbn (rk_sbn rk_sb0))))))))) ?_
      exact hc _ _ _ (Option.some.inj hf).symm
    · replace hf := rk_if hf h2
      refine AW_iload_4 dX10_between_169 ?_
      refine AW_if_ne 188 dX10_between_171 (by decide) (fun h3 => ?_) (fun h3 => ?_)
      · replace hf := rk_if hf h3
        refine AW_aload_n0 dX10_between_188 ?_
        refine AW_getR dX10_between_189 kf_X10_59 rfl (hM.1 31 (by decide) (by decide)) (by decide) (hM.2 31 21 47 rfl) ?_
        refine AW_iload_n2 dX10_between_192 ?_
        replace hf := rk_bd hf
        obtain ⟨x4, e4, hf⟩ := hf
        refine AW_rd dX10_between_193 (hM.1 47 (by decide) (by decide)) e4 ?_
        refine AW_iload_5 dX10_between_194 ?_
        refine AW_icmp_le 207 dX10_between_196 (by decide) (fun h4 => ?_) (fun h4 => ?_)
        · replace hf := rk_it hf h4
          refine AW_iinc_6 (v := 1) dX10_between_207 (by decide) (by decide) rfl ?_
          refine AW_goto 67 dX10_between_210 (by decide) ?_
          refine AW_sb (rk_sbs (rk_sbs (rk_sbs (rk_sbs (rk_sbs (rk_sbs (rk_sbs (rk_sbn (rk_sbn rk_sb0))))))))) ?_
          exact hc _ _ _ (Option.some.inj hf).symm
        · replace hf := rk_if hf h4
          refine AW_aload_n0 dX10_between_199 ?_
          refine AW_getR dX10_between_200 kf_X10_59 rfl (hM.1 31 (by decide) (by decide)) (by decide) (hM.2 31 21 47 rfl) ?_
          refine AW_iload_n2 dX10_between_203 ?_
          replace hf := rk_bd hf
          obtain ⟨x5, e5, hf⟩ := hf
          refine AW_rd dX10_between_204 (hM.1 47 (by decide) (by decide)) e5 ?_
          refine AW_istore_5 dX10_between_205 (by decide) rfl ?_
          refine AW_iinc_6 (v := 1) dX10_between_207 (by decide) (by decide) rfl ?_
          refine AW_goto 67 dX10_between_210 (by decide) ?_
          refine AW_sb (rk_sbs (rk_sbs (rk_sbs (rk_sbs (rk_sbs (rk_sbs (rk_sbs (rk_sbn (rk_sbn rk_sb0))))))))) ?_
          exact hc _ _ _ (Option.some.inj hf).symm
      · replace hf := rk_it hf h3
        refine AW_aload_n0 dX10_between_174 ?_
        refine AW_getR dX10_between_175 kf_X10_59 rfl (hM.1 31 (by decide) (by decide)) (by decide) (hM.2 31 21 47 rfl) ?_
        refine AW_iload_n2 dX10_between_178 ?_
        replace hf := rk_bd hf
        obtain ⟨x6, e6, hf⟩ := hf
        refine AW_rd dX10_between_179 (hM.1 47 (by decide) (by decide)) e6 ?_
        refine AW_iload_5 dX10_between_180 ?_
        refine AW_icmp_ge 207 dX10_between_182 (by decide) (fun h5 => ?_) (fun h5 => ?_)
        · replace hf := rk_it hf h5
          refine AW_iinc_6 (v := 1) dX10_between_207 (by decide) (by decide) rfl ?_
          refine AW_goto 67 dX10_between_210 (by decide) ?_
          refine AW_sb (rk_sbs (rk_sbs (rk_sbs (rk_sbs (rk_sbs (rk_sbs (rk_sbs (rk_sbn (rk_sbn rk_sb0))))))))) ?_
          exact hc _ _ _ (Option.some.inj hf).symm
        · replace hf := rk_if hf h5
          refine AW_goto 199 dX10_between_185 (by decide) ?_
          refine AW_aload_n0 dX10_between_199 ?_
          refine AW_getR dX10_between_200 kf_X10_59 rfl (hM.1 31 (by decide) (by decide)) (by decide) (hM.2 31 21 47 rfl) ?_
          refine AW_iload_n2 dX10_between_203 ?_
          replace hf := rk_bd hf
          obtain ⟨x7, e7, hf⟩ := hf
          refine AW_rd dX10_between_204 (hM.1 47 (by decide) (by decide)) e7 ?_
          refine AW_istore_5 dX10_between_205 (by decide) rfl ?_
          refine AW_iinc_6 (v := 1) dX10_between_207 (by decide) (by decide) rfl ?_
          refine AW_goto 67 dX10_between_210 (by decide) ?_
          refine AW_sb (rk_sbs (rk_sbs (rk_sbs (rk_sbs (rk_sbs (rk_sbs (rk_sbs (rk_sbn (rk_sbn rk_sb0))))))))) ?_
          exact hc _ _ _ (Option.some.inj hf).symm
  · replace hf := rk_it hf h1
    refine AW_goto 207 dX10_between_152 (by decide) ?_
    refine AW_iinc_6 (v := 1) dX10_between_207 (by decide) (by decide) rfl ?_
    refine AW_goto 67 dX10_between_210 (by decide) ?_
    refine AW_sb (rk_sbs (rk_sbs (rk_sbs (rk_sbs (rk_sbs (rk_sbs (rk_sbs (rk_sbn (rk_sbn rk_sb0))))))))) ?_
    exact hc _ _ _ (Option.some.inj hf).symm
noncomputable def f_X10_between_l67 (I : rk_I) (u1 : Int32) (u2 : Int32) (u3 : Int32) (u4 : Int32) (s5 : Int32) (s6 : Int32) : Option ((Int32 × Int32 × rk_I) ⊕ (Int32 × Int32 × rk_I)) :=
if (rk_md u3 1000) < s6 then (
some (.inr (s5, s6, I))) else (
if s6 = (u3 / 1000) then (
f_X10_between_j92 I u1 u2 u3 u4 s5 s6 1) else (
f_X10_between_j92 I u1 u2 u3 u4 s5 s6 0))
theorem b_X10_between_l67 {G : rk_G} {l : Launch} {d kc ks : Nat} {n : Nat} {S : rk_Sh} {I : rk_I} {J : rk_J} {R : rk_R} {Q : rk_Q} {u1 : Int32} {u2 : Int32} {u3 : Int32} {u4 : Int32} {s5 : Int32} {s6 : Int32} {r : (Int32 × Int32 × rk_I) ⊕ (Int32 × Int32 × rk_I)} (hd : 5 ≤ d) (hM : rk_LM S R) (hf : f_X10_between_l67 I u1 u2 u3 u4 s5 s6 = some r) (hc : ∀ (w0 : Int32) (w1 : Int32) (I9 : rk_I), r = .inl (w0, w1, I9) → AW G l yX10_between cX10_between 9 (some .int) d kc ks 67 [some (.ref 31), some (.int u1), some (.int u2), some (.int u3), some (.int u4), some (.int w0), some (.int w1), none, none] [] n S I9 J R Q) (he : ∀ (w0 : Int32) (w1 : Int32) (I9 : rk_I), r = .inr (w0, w1, I9) → AW G l yX10_between cX10_between 9 (some .int) d kc ks 213 [some (.ref 31), some (.int u1), some (.int u2), some (.int u3), some (.int u4), some (.int w0), some (.int w1), none, none] [] n S I9 J R Q) :
    AW G l yX10_between cX10_between 9 (some .int) d kc ks 67 [some (.ref 31), some (.int u1), some (.int u2), some (.int u3), some (.int u4), some (.int s5), some (.int s6), none, none] [] n S I J R Q := by
  unfold f_X10_between_l67 at hf
  refine AW_iload_6 dX10_between_67 ?_
  refine AW_iload_n3 dX10_between_69 ?_
  refine AW_sipush (v := 1000) dX10_between_70 (by decide) ?_
  refine AW_md dX10_between_73 (by decide) ?_
  refine AW_icmp_gt 213 dX10_between_74 (by decide) (fun h1 => ?_) (fun h1 => ?_)
  · replace hf := rk_it hf h1
    refine AW_sb (rk_sbs (rk_sbs (rk_sbs (rk_sbs (rk_sbs (rk_sbs (rk_sbs (rk_sbn (rk_sbn rk_sb0))))))))) ?_
    exact he _ _ _ (Option.some.inj hf).symm
  · replace hf := rk_if hf h1
    refine AW_iload_6 dX10_between_77 ?_
    refine AW_iload_n3 dX10_between_79 ?_
    refine AW_sipush (v := 1000) dX10_between_80 (by decide) ?_
    refine AW_idiv dX10_between_83 (by decide) ?_
    refine AW_icmp_ne 91 dX10_between_84 (by decide) (fun h2 => ?_) (fun h2 => ?_)
    · replace hf := rk_if hf h2
      refine AW_iconst (v := 0) dX10_between_91 (by decide) ?_
      refine AW_sb (rk_sbs (rk_sbs (rk_sbs (rk_sbs (rk_sbs (rk_sbs (rk_sbs (rk_sbn (rk_sbn rk_sb0))))))))) ?_
      exact b_X10_between_j92 (Nat.le_trans (by decide) hd) hM hf hc he
    · replace hf := rk_it hf h2
      refine AW_iconst (v := 1) dX10_between_87 (by decide) ?_
      refine AW_goto 92 dX10_between_88 (by decide) ?_
      refine AW_sb (rk_sbs (rk_sbs (rk_sbs (rk_sbs (rk_sbs (rk_sbs (rk_sbs (rk_sbn (rk_sbn rk_sb0))))))))) ?_
      exact b_X10_between_j92 (Nat.le_trans (by decide) hd) hM hf hc he
theorem L_X10_between_w67 {G : rk_G} {l : Launch} {d kc ks : Nat} {n : Nat} {S : rk_Sh} {J : rk_J} {R : rk_R} {Q : rk_Q} {u1 : Int32} {u2 : Int32} {u3 : Int32} {u4 : Int32} {r : Int32 × Int32 × rk_I} (hd : 5 ≤ d) (hM : rk_LM S R) (he : ∀ (w0 : Int32) (w1 : Int32) (I9 : rk_I), r = (w0, w1, I9) → AW G l yX10_between cX10_between 9 (some .int) d kc ks 213 [some (.ref 31), some (.int u1), some (.int u2), some (.int u3), some (.int u4), some (.int w0), some (.int w1), none, none] [] n S I9 J R Q) :
    ∀ (m9 : Nat) (s5 : Int32) (s6 : Int32) (I : rk_I), rk_loop (fun a9 => f_X10_between_l67 a9.2.2 u1 u2 u3 u4 a9.1 a9.2.1) m9 (s5, s6, I) = some r → AW G l yX10_between cX10_between 9 (some .int) d kc ks 67 [some (.ref 31), some (.int u1), some (.int u2), some (.int u3), some (.int u4), some (.int s5), some (.int s6), none, none] [] n S I J R Q := by
  intro m9
  induction m9 with
  | zero => intro s5 s6 I hf; cases hf
  | succ m9 ih =>
    intro s5 s6 I hf 
    obtain ⟨r9, hf, hr⟩ := rk_loop_s hf
    exact b_X10_between_l67 hd hM hf (fun _ _ _ h9 => by subst h9; exact ih _ _ _ hr) (fun _ _ _ h9 => by subst h9; exact he _ _ _ hr.symm)
noncomputable def f_X10_between (I : rk_I) (a1 : Int32) (a2 : Int32) (a3 : Int32) (a4 : Int32) : Option (Int32 × rk_I) :=
(f_X10_isCargo I a1).bind fun x1 =>
if x1 = 0 then (
some ((-2), I)) else (
(f_X10_isHand a2).bind fun x2 =>
if x2 = 0 then (
some ((-2), I)) else (
if a3 < 0 then (
some ((-2), I)) else (
(f_X10_isHour (a3 / 1000)).bind fun x3 =>
if x3 = 0 then (
some ((-2), I)) else (
if (rk_md a3 1000) < (a3 / 1000) then (
some ((-2), I)) else (
(f_X10_in a4.toInt64 0 1).bind fun x4 =>
if x4 = 0 then (
some ((-2), I)) else (
rk_b3 (rk_while (fun a9 => f_X10_between_l67 a9.2.2 a1 a2 a3 a4 a9.1 a9.2.1) ((-1), (a3 / 1000), I)) fun x5 x6 I1 =>
some (x5, I1)))))))
theorem b_X10_between {G : rk_G} {l : Launch} {d kc ks : Nat} {n : Nat} {S : rk_Sh} {I : rk_I} {J : rk_J} {R : rk_R} {Q : rk_Q} {a1 : Int32} {a2 : Int32} {a3 : Int32} {a4 : Int32} {r : Int32 × rk_I} (hd : 5 ≤ d) (hM : rk_LM S R) (hf : f_X10_between I a1 a2 a3 a4 = some r) (hq : ∀ (v9 : Int32) (I9 : rk_I), r = (v9, I9) → Q (some (.int v9)) n S I9 J R) :
    AW G l yX10_between cX10_between 9 (some .int) d kc ks 0 [some (.ref 31), some (.int a1), some (.int a2), some (.int a3), some (.int a4), none, none, none, none] [] n S I J R Q := by
  unfold f_X10_between at hf
  refine AW_aload_n0 dX10_between_0 ?_
  refine AW_iload_n1 dX10_between_1 ?_
  replace hf := rk_bd hf
  obtain ⟨x1, e1, hf⟩ := hf
  refine AW_iV1iz (w_X10_isCargo (d := 1) (Nat.le_refl _) hM e1) dX10_between_2 kl_X10_129 (hM.1 31 (by decide) (by decide)) rfl (Nat.le_trans (by decide) hd) (by decide) (Nat.le_of_ble_eq_true rfl) (fun _ => ?_)
  refine AW_if_eq 54 dX10_between_5 (by decide) (fun h1 => ?_) (fun h1 => ?_)
  · replace hf := rk_it hf h1
    refine AW_bipush (v := (-2)) dX10_between_54 (by decide) ?_
    exact AW_iret dX10_between_56 rfl (hq _ _ (Option.some.inj hf).symm)
  · replace hf := rk_if hf h1
    refine AW_iload_n2 dX10_between_8 ?_
    replace hf := rk_bd hf
    obtain ⟨x2, e2, hf⟩ := hf
    refine AW_iS1iz (w_X10_isHand (d := 1) (Nat.le_refl _) e2) dX10_between_9 kl_X10_125 (Nat.le_trans (by decide) hd) (by decide) (Nat.le_of_ble_eq_true rfl) (fun _ => ?_)
    refine AW_if_eq 54 dX10_between_12 (by decide) (fun h2 => ?_) (fun h2 => ?_)
    · replace hf := rk_it hf h2
      refine AW_bipush (v := (-2)) dX10_between_54 (by decide) ?_
      exact AW_iret dX10_between_56 rfl (hq _ _ (Option.some.inj hf).symm)
    · replace hf := rk_if hf h2
      refine AW_iload_n3 dX10_between_15 ?_
      refine AW_if_lt 54 dX10_between_16 (by decide) (fun h3 => ?_) (fun h3 => ?_)
      · replace hf := rk_it hf h3
        refine AW_bipush (v := (-2)) dX10_between_54 (by decide) ?_
        exact AW_iret dX10_between_56 rfl (hq _ _ (Option.some.inj hf).symm)
      · replace hf := rk_if hf h3
        refine AW_iload_n3 dX10_between_19 ?_
        refine AW_sipush (v := 1000) dX10_between_20 (by decide) ?_
        refine AW_idiv dX10_between_23 (by decide) ?_
        replace hf := rk_bd hf
        obtain ⟨x3, e3, hf⟩ := hf
        refine AW_iS1iz (w_X10_isHour (d := 1) (Nat.le_refl _) e3) dX10_between_24 kl_X10_138 (Nat.le_trans (by decide) hd) (by decide) (Nat.le_of_ble_eq_true rfl) (fun _ => ?_)
        refine AW_if_eq 54 dX10_between_27 (by decide) (fun h4 => ?_) (fun h4 => ?_)
        · replace hf := rk_it hf h4
          refine AW_bipush (v := (-2)) dX10_between_54 (by decide) ?_
          exact AW_iret dX10_between_56 rfl (hq _ _ (Option.some.inj hf).symm)
        · replace hf := rk_if hf h4
          refine AW_iload_n3 dX10_between_30 ?_
          refine AW_sipush (v := 1000) dX10_between_31 (by decide) ?_
          refine AW_md dX10_between_34 (by decide) ?_
          refine AW_iload_n3 dX10_between_35 ?_
          refine AW_sipush (v := 1000) dX10_between_36 (by decide) ?_
          refine AW_idiv dX10_between_39 (by decide) ?_
          refine AW_icmp_lt 54 dX10_between_40 (by decide) (fun h5 => ?_) (fun h5 => ?_)
          · replace hf := rk_it hf h5
            refine AW_bipush (v := (-2)) dX10_between_54 (by decide) ?_
            exact AW_iret dX10_between_56 rfl (hq _ _ (Option.some.inj hf).symm)
          · replace hf := rk_if hf h5
            refine AW_iload_4 dX10_between_43 ?_
            refine AW_i2l dX10_between_45 ?_
            refine AW_lconst (v := 0) dX10_between_46 (by decide) ?_
            refine AW_lconst (v := 1) dX10_between_47 (by decide) ?_
            replace hf := rk_bd hf
            obtain ⟨x4, e4, hf⟩ := hf
            refine AW_iS3iz (w_X10_in (d := 0) e4) dX10_between_48 kl_X10_114 (Nat.le_trans (by decide) hd) (by decide) (Nat.le_of_ble_eq_true rfl) (fun _ => ?_)
            refine AW_if_ne 57 dX10_between_51 (by decide) (fun h6 => ?_) (fun h6 => ?_)
            · replace hf := rk_if hf h6
              refine AW_iconst (v := (-1)) dX10_between_57 (by decide) ?_
              refine AW_istore_5 dX10_between_58 (by decide) rfl ?_
              refine AW_iload_n3 dX10_between_60 ?_
              refine AW_sipush (v := 1000) dX10_between_61 (by decide) ?_
              refine AW_idiv dX10_between_64 (by decide) ?_
              refine AW_istore_6 dX10_between_65 (by decide) rfl ?_
              refine AW_sb (rk_sbs (rk_sbs (rk_sbs (rk_sbs (rk_sbs (rk_sbs (rk_sbs (rk_sbn (rk_sbn rk_sb0))))))))) ?_
              replace hf := rk_bd3 hf
              obtain ⟨x5, x6, I1, e5, hf⟩ := hf
              obtain ⟨m1, e5⟩ := rk_while_sp e5
              refine L_X10_between_w67 (Nat.le_trans (by decide) hd) hM ?_ m1 _ _ _ e5
              intro x5 x6 I1 h9
              cases h9
              refine AW_iload_5 dX10_between_213 ?_
              exact AW_iret dX10_between_215 rfl (hq _ _ (Option.some.inj hf).symm)
            · replace hf := rk_it hf h6
              refine AW_bipush (v := (-2)) dX10_between_54 (by decide) ?_
              exact AW_iret dX10_between_56 rfl (hq _ _ (Option.some.inj hf).symm)
theorem w_X10_between {G : rk_G} {l : Launch} {d : Nat} {n : Nat} {S : rk_Sh} {I : rk_I} {J : rk_J} {R : rk_R} {a1 : Int32} {a2 : Int32} {a3 : Int32} {a4 : Int32} {v8 : Int32} {I8 : rk_I} (hd : 5 ≤ d) (hM : rk_LM S R) (hf : f_X10_between I a1 a2 a3 a4 = some (v8, I8)) :
    CW G l yX10_between cX10_between 9 (some .int) d 0 0 [.ref 31, .int a1, .int a2, .int a3, .int a4] n S I J R (rk_qi v8 n S I8 J R True) :=
  CW.of (by decide +kernel) (Nat.le_of_ble_eq_true rfl) (rk_sbs (rk_sbs (rk_sbs (rk_sbs (rk_sbs (rk_sbe (rk_sbe (rk_sbe (rk_sbe rk_sb0))))))))) (b_X10_between hd hM hf (fun v9 I9 h9 => by cases h9; exact ⟨rfl, rfl, rfl, rfl, rfl, rfl, trivial⟩))
noncomputable def f_X2_room (I : rk_I)  : Option (Int32) :=
some (160 - (I 4 1))
theorem b_X2_room {G : rk_G} {l : Launch} {d kc ks : Nat} {n : Nat} {S : rk_Sh} {I : rk_I} {J : rk_J} {R : rk_R} {Q : rk_Q}  {r : Int32} (hL : rk_LC S R) (hf : f_X2_room I = some r) (hq : ∀ (v9 : Int32), r = v9 → Q (some (.int v9)) n S I J R) :
    AW G l yX2_room cX2_room 1 (some .int) d kc ks 0 [some (.ref 4)] [] n S I J R Q := by
  unfold f_X2_room at hf
  refine AW_sipush (v := 160) dX2_room_0 (by decide) ?_
  refine AW_aload_n0 dX2_room_3 ?_
  refine AW_getI dX2_room_4 kf_X2_27 rfl (hL.1 4 (by decide)) (by decide) ?_
  refine AW_isub dX2_room_7 ?_
  exact AW_iret dX2_room_8 rfl (hq _ (Option.some.inj hf).symm)
theorem w_X2_room {G : rk_G} {l : Launch} {d : Nat} {n : Nat} {S : rk_Sh} {I : rk_I} {J : rk_J} {R : rk_R}  {v8 : Int32} (hL : rk_LC S R) (hf : f_X2_room I = some v8) :
    CW G l yX2_room cX2_room 1 (some .int) d 0 0 [.ref 4] n S I J R (rk_qi v8 n S I J R True) :=
  CW.of (by decide +kernel) (Nat.le_of_ble_eq_true rfl) (rk_sbs rk_sb0) (b_X2_room hL hf (fun v9 h9 => by cases h9; exact ⟨rfl, rfl, rfl, rfl, rfl, rfl, trivial⟩))
noncomputable def f_X2_put (I : rk_I) (a1 : Int32) : Option (rk_I) :=
if 160 ≤ (I 4 1) then (
some I) else (
(rk_wr I 5 160 (I 4 1) a1).bind fun I1 =>
(some (rk_ui I1 4 1 ((I1 4 1) + 1))).bind fun I2 =>
some I2)
theorem b_X2_put {G : rk_G} {l : Launch} {d kc ks : Nat} {n : Nat} {S : rk_Sh} {I : rk_I} {J : rk_J} {R : rk_R} {Q : rk_Q} {a1 : Int32} {r : rk_I} (hL : rk_LC S R) (hf : f_X2_put I a1 = some r) (hq : ∀ (I9 : rk_I), r = I9 → Q (none) n S I9 J R) :
    AW G l yX2_put cX2_put 2 none d kc ks 0 [some (.ref 4), some (.int a1)] [] n S I J R Q := by
  unfold f_X2_put at hf
  refine AW_aload_n0 dX2_put_0 ?_
  refine AW_getI dX2_put_1 kf_X2_27 rfl (hL.1 4 (by decide)) (by decide) ?_
  refine AW_sipush (v := 160) dX2_put_4 (by decide) ?_
  refine AW_icmp_ge 30 dX2_put_7 (by decide) (fun h1 => ?_) (fun h1 => ?_)
  · replace hf := rk_it hf h1
    exact AW_vret dX2_put_30 rfl (hq _ (Option.some.inj hf).symm)
  · replace hf := rk_if hf h1
    refine AW_aload_n0 dX2_put_10 ?_
    refine AW_getR dX2_put_11 kf_X2_11 rfl (hL.1 4 (by decide)) (by decide) (hL.2 4 0 5 rfl) ?_
    refine AW_aload_n0 dX2_put_14 ?_
    refine AW_getI dX2_put_15 kf_X2_27 rfl (hL.1 4 (by decide)) (by decide) ?_
    refine AW_iload_n1 dX2_put_18 ?_
    replace hf := rk_bd hf
    obtain ⟨I1, e1, hf⟩ := hf
    refine AW_wr dX2_put_19 (hL.1 5 (by decide)) e1 ?_
    refine AW_aload_n0 dX2_put_20 ?_
    refine AW_dup dX2_put_21 rfl ?_
    refine AW_getI dX2_put_22 kf_X2_27 rfl (hL.1 4 (by decide)) (by decide) ?_
    refine AW_iconst (v := 1) dX2_put_25 (by decide) ?_
    refine AW_iadd dX2_put_26 ?_
    replace hf := rk_bd hf
    obtain ⟨I2, e2, hf⟩ := hf
    refine AW_puI dX2_put_27 kf_X2_27 rfl (hL.1 4 (by decide)) (by decide) e2 ?_
    exact AW_vret dX2_put_30 rfl (hq _ (Option.some.inj hf).symm)
theorem w_X2_put {G : rk_G} {l : Launch} {d : Nat} {n : Nat} {S : rk_Sh} {I : rk_I} {J : rk_J} {R : rk_R} {a1 : Int32} {I8 : rk_I} (hL : rk_LC S R) (hf : f_X2_put I a1 = some I8) :
    CW G l yX2_put cX2_put 2 none d 0 0 [.ref 4, .int a1] n S I J R (rk_qv n S I8 J R True) :=
  CW.of (by decide +kernel) (Nat.le_of_ble_eq_true rfl) (rk_sbs (rk_sbs rk_sb0)) (b_X2_put hL hf (fun I9 h9 => by cases h9; exact ⟨rfl, rfl, rfl, rfl, rfl, rfl, trivial⟩))
noncomputable def f_X9_feed_l31 (I : rk_I) (u1 : Int32) (u2 : Int64) (s4 : Int32) : Option ((Int32 × rk_I) ⊕ (Int32 × rk_I)) :=
if u1 ≤ s4 then (
some (.inr (s4, I))) else (
(f_X2_put I ((Int64.toInt32 (rk_lus u2 (8 * s4))) &&& 255)).bind fun I1 =>
some (.inl ((s4 + 1), I1)))
theorem b_X9_feed_l31 {G : rk_G} {l : Launch} {d kc ks : Nat} {n : Nat} {S : rk_Sh} {I : rk_I} {J : rk_J} {R : rk_R} {Q : rk_Q} {u1 : Int32} {u2 : Int64} {s4 : Int32} {r : (Int32 × rk_I) ⊕ (Int32 × rk_I)} (hd : 1 ≤ d) (hL : rk_LC S R) (hf : f_X9_feed_l31 I u1 u2 s4 = some r) (hc : ∀ (w0 : Int32) (I9 : rk_I), r = .inl (w0, I9) → AW G l yX9_feed cX9_feed 5 (some .int) d kc ks 31 [some (.ref 0), some (.int u1), some (.long u2), none, some (.int w0)] [] n S I9 J R Q) (he : ∀ (w0 : Int32) (I9 : rk_I), r = .inr (w0, I9) → AW G l yX9_feed cX9_feed 5 (some .int) d kc ks 62 [some (.ref 0), some (.int u1), some (.long u2), none, some (.int w0)] [] n S I9 J R Q) :
    AW G l yX9_feed cX9_feed 5 (some .int) d kc ks 31 [some (.ref 0), some (.int u1), some (.long u2), none, some (.int s4)] [] n S I J R Q := by
  unfold f_X9_feed_l31 at hf
  refine AW_iload_4 dX9_feed_31 ?_
  refine AW_iload_n1 dX9_feed_33 ?_
  refine AW_icmp_ge 62 dX9_feed_34 (by decide) (fun h1 => ?_) (fun h1 => ?_)
  · replace hf := rk_it hf h1
    refine AW_sb (rk_sbs (rk_sbs (rk_sbs (rk_sbn (rk_sbs rk_sb0))))) ?_
    exact he _ _ (Option.some.inj hf).symm
  · replace hf := rk_if hf h1
    refine AW_aload_n0 dX9_feed_37 ?_
    refine AW_getR dX9_feed_38 kf_X9_30 rfl (hL.1 0 (by decide)) (by decide) (hL.2 0 7 4 rfl) ?_
    refine AW_lload_n2 dX9_feed_41 ?_
    refine AW_bipush (v := 8) dX9_feed_42 (by decide) ?_
    refine AW_iload_4 dX9_feed_44 ?_
    refine AW_imul dX9_feed_46 ?_
    refine AW_lus dX9_feed_47 ?_
    refine AW_l2i dX9_feed_48 ?_
    refine AW_sipush (v := 255) dX9_feed_49 (by decide) ?_
    refine AW_iand dX9_feed_52 ?_
    replace hf := rk_bd hf
    obtain ⟨I1, e1, hf⟩ := hf
    refine AW_iV1vz (w_X2_put (d := 0) hL e1) dX9_feed_53 kl_X9_78 (hL.1 4 (by decide)) rfl (Nat.le_trans (by decide) hd) (by decide) (Nat.le_of_ble_eq_true rfl) (fun _ => ?_)
    refine AW_iinc_4 (v := 1) dX9_feed_56 (by decide) (by decide) rfl ?_
    refine AW_goto 31 dX9_feed_59 (by decide) ?_
    refine AW_sb (rk_sbs (rk_sbs (rk_sbs (rk_sbn (rk_sbs rk_sb0))))) ?_
    exact hc _ _ (Option.some.inj hf).symm
theorem L_X9_feed_w31 {G : rk_G} {l : Launch} {d kc ks : Nat} {n : Nat} {S : rk_Sh} {J : rk_J} {R : rk_R} {Q : rk_Q} {u1 : Int32} {u2 : Int64} {r : Int32 × rk_I} (hd : 1 ≤ d) (hL : rk_LC S R) (he : ∀ (w0 : Int32) (I9 : rk_I), r = (w0, I9) → AW G l yX9_feed cX9_feed 5 (some .int) d kc ks 62 [some (.ref 0), some (.int u1), some (.long u2), none, some (.int w0)] [] n S I9 J R Q) :
    ∀ (m9 : Nat) (s4 : Int32) (I : rk_I), rk_loop (fun a9 => f_X9_feed_l31 a9.2 u1 u2 a9.1) m9 (s4, I) = some r → AW G l yX9_feed cX9_feed 5 (some .int) d kc ks 31 [some (.ref 0), some (.int u1), some (.long u2), none, some (.int s4)] [] n S I J R Q := by
  intro m9
  induction m9 with
  | zero => intro s4 I hf; cases hf
  | succ m9 ih =>
    intro s4 I hf 
    obtain ⟨r9, hf, hr⟩ := rk_loop_s hf
    exact b_X9_feed_l31 hd hL hf (fun _ _ h9 => by subst h9; exact ih _ _ hr) (fun _ _ h9 => by subst h9; exact he _ _ hr.symm)
noncomputable def f_X9_feed (I : rk_I) (a1 : Int32) (a2 : Int64) : Option (Int32 × rk_I) :=
if a1 < 1 then (
some ((-2), I)) else (
if a1 ≤ 8 then (
(f_X2_room I).bind fun x1 =>
if a1 ≤ x1 then (
rk_b2 (rk_while (fun a9 => f_X9_feed_l31 a9.2 a1 a2 a9.1) (0, I)) fun x2 I1 =>
some ((I1 4 1), I1)) else (
some ((-4), I))) else (
some ((-2), I)))
theorem b_X9_feed {G : rk_G} {l : Launch} {d kc ks : Nat} {n : Nat} {S : rk_Sh} {I : rk_I} {J : rk_J} {R : rk_R} {Q : rk_Q} {a1 : Int32} {a2 : Int64} {r : Int32 × rk_I} (hd : 1 ≤ d) (hL : rk_LC S R) (hf : f_X9_feed I a1 a2 = some r) (hq : ∀ (v9 : Int32) (I9 : rk_I), r = (v9, I9) → Q (some (.int v9)) n S I9 J R) :
    AW G l yX9_feed cX9_feed 5 (some .int) d kc ks 0 [some (.ref 0), some (.int a1), some (.long a2), none, none] [] n S I J R Q := by
  unfold f_X9_feed at hf
  refine AW_iload_n1 dX9_feed_0 ?_
  refine AW_iconst (v := 1) dX9_feed_1 (by decide) ?_
  refine AW_icmp_lt 11 dX9_feed_2 (by decide) (fun h1 => ?_) (fun h1 => ?_)
  · replace hf := rk_it hf h1
    refine AW_bipush (v := (-2)) dX9_feed_11 (by decide) ?_
    exact AW_iret dX9_feed_13 rfl (hq _ _ (Option.some.inj hf).symm)
  · replace hf := rk_if hf h1
    refine AW_iload_n1 dX9_feed_5 ?_
    refine AW_bipush (v := 8) dX9_feed_6 (by decide) ?_
    refine AW_icmp_le 14 dX9_feed_8 (by decide) (fun h2 => ?_) (fun h2 => ?_)
    · replace hf := rk_it hf h2
      refine AW_iload_n1 dX9_feed_14 ?_
      refine AW_aload_n0 dX9_feed_15 ?_
      refine AW_getR dX9_feed_16 kf_X9_30 rfl (hL.1 0 (by decide)) (by decide) (hL.2 0 7 4 rfl) ?_
      replace hf := rk_bd hf
      obtain ⟨x1, e1, hf⟩ := hf
      refine AW_iV0iz (w_X2_room (d := 0) hL e1) dX9_feed_19 kl_X9_189 (hL.1 4 (by decide)) rfl (Nat.le_trans (by decide) hd) (by decide) (Nat.le_of_ble_eq_true rfl) (fun _ => ?_)
      refine AW_icmp_le 28 dX9_feed_22 (by decide) (fun h3 => ?_) (fun h3 => ?_)
      · replace hf := rk_it hf h3
        refine AW_iconst (v := 0) dX9_feed_28 (by decide) ?_
        refine AW_istore_4 dX9_feed_29 (by decide) rfl ?_
        refine AW_sb (rk_sbs (rk_sbs (rk_sbs (rk_sbn (rk_sbs rk_sb0))))) ?_
        replace hf := rk_bd2 hf
        obtain ⟨x2, I1, e2, hf⟩ := hf
        obtain ⟨m1, e2⟩ := rk_while_sp e2
        refine L_X9_feed_w31 (Nat.le_trans (by decide) hd) hL ?_ m1 _ _ e2
        intro x2 I1 h9
        cases h9
        refine AW_aload_n0 dX9_feed_62 ?_
        refine AW_getR dX9_feed_63 kf_X9_30 rfl (hL.1 0 (by decide)) (by decide) (hL.2 0 7 4 rfl) ?_
        refine AW_getI dX9_feed_66 kf_X9_192 rfl (hL.1 4 (by decide)) (by decide) ?_
        exact AW_iret dX9_feed_69 rfl (hq _ _ (Option.some.inj hf).symm)
      · replace hf := rk_if hf h3
        refine AW_bipush (v := (-4)) dX9_feed_25 (by decide) ?_
        exact AW_iret dX9_feed_27 rfl (hq _ _ (Option.some.inj hf).symm)
    · replace hf := rk_if hf h2
      refine AW_bipush (v := (-2)) dX9_feed_11 (by decide) ?_
      exact AW_iret dX9_feed_13 rfl (hq _ _ (Option.some.inj hf).symm)
theorem w_X9_feed {G : rk_G} {l : Launch} {d : Nat} {n : Nat} {S : rk_Sh} {I : rk_I} {J : rk_J} {R : rk_R} {a1 : Int32} {a2 : Int64} {v8 : Int32} {I8 : rk_I} (hd : 1 ≤ d) (hL : rk_LC S R) (hf : f_X9_feed I a1 a2 = some (v8, I8)) :
    CW G l yX9_feed cX9_feed 5 (some .int) d 0 0 [.ref 0, .int a1, .long a2] n S I J R (rk_qi v8 n S I8 J R True) :=
  CW.of (by decide +kernel) (Nat.le_of_ble_eq_true rfl) (rk_sbs (rk_sbs (rk_sbs (rk_sbs (rk_sbe rk_sb0))))) (b_X9_feed hd hL hf (fun v9 I9 h9 => by cases h9; exact ⟨rfl, rfl, rfl, rfl, rfl, rfl, trivial⟩))
