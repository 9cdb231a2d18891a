noncomputable def f_X10_spell_l3 (I : rk_I) (u1 : Int32) (u2 : Int64) (s4 : Int32) : Option ((Int32 × rk_I) ⊕ (Int32 × rk_I)) :=
if 8 ≤ s4 then (
some (.inr (s4, I))) else (
(rk_wr I 32 960 (u1 + s4) (Int64.toInt32 ((rk_lsr u2 (56 - (8 * s4))) &&& 255))).bind fun I1 =>
some (.inl ((s4 + 1), I1)))
theorem b_X10_spell_l3 {G : rk_G} {l : Launch} {d kc ks : Nat} {n : Nat} {S : rk_Sh} {I : rk_I} {J : rk_J} {R : rk_R} {Q : rk_Q} {u1 : Int32} {u2 : Int64} {s4 : Int32} {r : (Int32 × rk_I) ⊕ (Int32 × rk_I)} (hM : rk_LM S R) (hf : f_X10_spell_l3 I u1 u2 s4 = some r) (hc : ∀ (w0 : Int32) (I9 : rk_I), r = .inl (w0, I9) → AW G l yX10_spell cX10_spell 5 none d kc ks 3 [some (.ref 31), some (.int u1), some (.long u2), none, some (.int w0)] [] n S I9 J R Q) (he : ∀ (w0 : Int32) (I9 : rk_I), r = .inr (w0, I9) → AW G l yX10_spell cX10_spell 5 none d kc ks 40 [some (.ref 31), some (.int u1), some (.long u2), none, some (.int w0)] [] n S I9 J R Q) :
    AW G l yX10_spell cX10_spell 5 none d kc ks 3 [some (.ref 31), some (.int u1), some (.long u2), none, some (.int s4)] [] n S I J R Q := by
  unfold f_X10_spell_l3 at hf
  refine AW_iload_4 dX10_spell_3 ?_
  refine AW_bipush (v := 8) dX10_spell_5 (by decide) ?_
  refine AW_icmp_ge 40 dX10_spell_7 (by decide) (fun h1 => ?_) (fun h1 => ?_)
  · replace hf := rk_it hf h1
    refine AW_sb (rk_sbs (rk_sbs (rk_sbs (rk_sbn (rk_sbs rk_sb0))))) ?_
    exact he _ _ (Option.some.inj hf).symm
  · replace hf := rk_if hf h1
    refine AW_aload_n0 dX10_spell_10 ?_
    refine AW_getR dX10_spell_11 kf_X10_13 rfl (hM.1 31 (by decide) (by decide)) (by decide) (hM.2 31 1 32 rfl) ?_
    refine AW_iload_n1 dX10_spell_14 ?_
    refine AW_iload_4 dX10_spell_15 ?_
    refine AW_iadd dX10_spell_17 ?_
    refine AW_lload_n2 dX10_spell_18 ?_
    refine AW_bipush (v := 56) dX10_spell_19 (by decide) ?_
    refine AW_bipush (v := 8) dX10_spell_21 (by decide) ?_
    refine AW_iload_4 dX10_spell_23 ?_
    refine AW_imul dX10_spell_25 ?_
    refine AW_isub dX10_spell_26 ?_
    refine AW_lsr dX10_spell_27 ?_
    refine AW_ldc2 dX10_spell_28 kv_X10_109 ?_
    refine AW_land dX10_spell_31 ?_
    refine AW_l2i dX10_spell_32 ?_
    replace hf := rk_bd hf
    obtain ⟨I1, e1, hf⟩ := hf
    refine AW_wr dX10_spell_33 (hM.1 32 (by decide) (by decide)) e1 ?_
    refine AW_iinc_4 (v := 1) dX10_spell_34 (by decide) (by decide) rfl ?_
    refine AW_goto 3 dX10_spell_37 (by decide) ?_
    refine AW_sb (rk_sbs (rk_sbs (rk_sbs (rk_sbn (rk_sbs rk_sb0))))) ?_
    exact hc _ _ (Option.some.inj hf).symm
theorem L_X10_spell_w3 {G : rk_G} {l : Launch} {d kc ks : Nat} {n : Nat} {S : rk_Sh} {J : rk_J} {R : rk_R} {Q : rk_Q} {u1 : Int32} {u2 : Int64} {r : Int32 × rk_I} (hM : rk_LM S R) (he : ∀ (w0 : Int32) (I9 : rk_I), r = (w0, I9) → AW G l yX10_spell cX10_spell 5 none d kc ks 40 [some (.ref 31), some (.int u1), some (.long u2), none, some (.int w0)] [] n S I9 J R Q) :
    ∀ (m9 : Nat) (s4 : Int32) (I : rk_I), rk_loop (fun a9 => f_X10_spell_l3 a9.2 u1 u2 a9.1) m9 (s4, I) = some r → AW G l yX10_spell cX10_spell 5 none d kc ks 3 [some (.ref 31), some (.int u1), some (.long u2), none, some (.int s4)] [] n S I J R Q := by
  intro m9
  induction m9 with
  | zero => intro s4 I hf; cases hf
  | succ m9 ih =>
    intro s4 I hf 
    obtain ⟨r9, hf, hr⟩ := rk_loop_s hf
    exact b_X10_spell_l3 hM hf (fun _ _ h9 => by subst h9; exact ih _ _ hr) (fun _ _ h9 => by subst h9; exact he _ _ hr.symm)
noncomputable def f_X10_spell (I : rk_I) (a1 : Int32) (a2 : Int64) : Option (rk_I) :=
rk_b2 (rk_while (fun a9 => f_X10_spell_l3 a9.2 a1 a2 a9.1) (0, I)) fun x1 I1 =>
some I1
theorem b_X10_spell {G : rk_G} {l : Launch} {d kc ks : Nat} {n : Nat} {S : rk_Sh} {I : rk_I} {J : rk_J} {R : rk_R} {Q : rk_Q} {a1 : Int32} {a2 : Int64} {r : rk_I} (hM : rk_LM S R) (hf : f_X10_spell I a1 a2 = some r) (hq : ∀ (I9 : rk_I), r = I9 → Q (none) n S I9 J R) :
    AW G l yX10_spell cX10_spell 5 none d kc ks 0 [some (.ref 31), some (.int a1), some (.long a2), none, none] [] n S I J R Q := by
  unfold f_X10_spell at hf
  refine AW_iconst (v := 0) dX10_spell_0 (by decide) ?_
  refine AW_istore_4 dX10_spell_1 (by decide) rfl ?_
  refine AW_sb (rk_sbs (rk_sbs (rk_sbs (rk_sbn (rk_sbs rk_sb0))))) ?_
  replace hf := rk_bd2 hf
  obtain ⟨x1, I1, e1, hf⟩ := hf
  obtain ⟨m1, e1⟩ := rk_while_sp e1
  refine L_X10_spell_w3 hM ?_ m1 _ _ e1
  intro x1 I1 h9
  cases h9
  exact AW_vret dX10_spell_40 rfl (hq _ (Option.some.inj hf).symm)
theorem w_X10_spell {G : rk_G} {l : Launch} {d : Nat} {n : Nat} {S : rk_Sh} {I : rk_I} {J : rk_J} {R : rk_R} {a1 : Int32} {a2 : Int64} {I8 : rk_I} (hM : rk_LM S R) (hf : f_X10_spell I a1 a2 = some I8) :
    CW G l yX10_spell cX10_spell 5 none d 0 0 [.ref 31, .int a1, .long a2] n S I J R (rk_qv n S I8 J R True) :=
  CW.of (by decide +kernel) (Nat.le_of_ble_eq_true rfl) (rk_sbs (rk_sbs (rk_sbs (rk_sbs (rk_sbe rk_sb0))))) (b_X10_spell hM hf (fun I9 h9 => by cases h9; exact ⟨rfl, rfl, rfl, rfl, rfl, rfl, trivial⟩))
