/-! THE CLASS'S WALK takes the least of what it offers -/
def wk_S (sv : pv_V) (m f d x B V k z : Nat) : Prop := fo_F sv f k x ∧ ((sv k 3 = sv f 2 ∧ z = B ||| 2 ^ k) ∨ (sv k 3 ≠ sv f 2 ∧ V.testBit (sv k 3) = false ∧ fo_O sv m f d (sv k 3) (B ||| 2 ^ k) (V ||| 2 ^ (sv k 3)) z))
theorem wk_O {sv : pv_V} {m f d x B V z : Nat} : fo_O sv m f (d + 1) x B V z ↔ bc_n B < 10 ∧ ∃ k, f < k ∧ k < m ∧ wk_S sv m f d x B V k z := Iff.rfl
theorem wk_Q {P St : Nat → Nat → Prop} {A : Nat → Prop} {f i z : Nat} (hi : f < i) : ((A z ∨ ∃ k, f < k ∧ k < i ∧ St k z) ∨ St i z) ↔ (A z ∨ ∃ k, f < k ∧ k < i + 1 ∧ St k z) := by
  constructor
  · rintro ((h | ⟨k, h1, h2, h3⟩) | h)
    · exact Or.inl h
    · exact Or.inr ⟨k, h1, by omega, h3⟩
    · exact Or.inr ⟨i, hi, by omega, h⟩
  · rintro (h | ⟨k, h1, h2, h3⟩)
    · exact Or.inl (Or.inl h)
    · by_cases e : k = i
      · subst e
        exact Or.inr h3
      · exact Or.inl (Or.inr ⟨k, h1, by omega, h3⟩)
theorem wk_cnt {V k : Nat} (hk : k < 10) (h : V.testBit k = false) : fb_ct (fun i => (V ||| 2 ^ k).testBit i) 10 = fb_ct (fun i => V.testBit i) 10 + 1 := by
  have e := fb_ct_upd (fun i => V.testBit i) true hk
  rw [fb_ct_cong (q := fun i => if i = k then true else V.testBit i) (fun i _ => by
    rw [fb_bit_set]
    by_cases e : i = k
    · simp [e]
    · simp [e])]
  simp only [h, if_true, Bool.false_eq_true, if_false] at e
  omega
section WK
variable {n c s m : Nat} {oc os : Nat → Nat} {sv cv : pv_V} {S : rk_Sh} {R : rk_R}
theorem wk_f (hB : pv_B c s sv cv) {I : rk_I} (hX : pv_X n c s oc os sv cv S I R) (hR : R 16 1 = some 2) {f k x : Nat} (hf : f < s) (hk : k < s) (hx : x < 10) : (fo_F sv f k x ∧ f_X4_follows S I R (nI f) (nI k) (nI x) = some 1) ∨ (¬ fo_F sv f k x ∧ f_X4_follows S I R (nI f) (nI k) (nI x) = some 0) := by
  obtain ⟨hO, -, -, x3, x4⟩ := hX
  have hs := hB.2.1
  have ckr : rk_ckR R 16 1 2 = some () := pr_ckR hR
  obtain ⟨k0, k1, k2, -, k3, -, k5, -⟩ := x3 k hk
  obtain ⟨f0, f1, f2, -, -, -, f5, -⟩ := x3 f hf
  have bk := hB.2.2.1 k hk
  have bf := hB.2.2.1 f hf
  have ck1 := (x4 (sv k 1) bk.2.1).2.1
  have cf1 := (x4 (sv f 1) bf.2.1).2.1
  unfold f_X4_follows fo_F
  rw [ckr, pr_sb, pr_rdR (by omega) (by omega), k0, pr_sb, pr_dr k1, pr_sb, k3]
  by_cases e1 : sv k 2 = x
  · rw [if_pos (by rw [e1]), pr_sb, pr_sb, pr_sb, pr_rdR (by omega) (by omega), f0, pr_sb, pr_dr f1, pr_sb, pr_sb, f2, pr_dr cf1, pr_sb, k2, pr_dr ck1, pr_sb]
    by_cases e2 : sv k 1 = sv f 1
    · rw [if_pos (by rw [e2]), pr_sb, pr_sb, k5, f5]
      by_cases e3 : sv k 4 = sv f 4
      · rw [if_pos (by rw [e3])]
        exact Or.inl ⟨⟨e1, e2, e3⟩, rfl⟩
      · rw [if_neg (fun z => e3 ((nI_eq (by omega) (by omega)).mp z))]
        exact Or.inr ⟨fun z => e3 z.2.2, rfl⟩
    · rw [if_neg (fun z => e2 (hO.2.2.1 _ _ bk.2.1 bf.2.1 z))]
      exact Or.inr ⟨fun z => e2 z.2.1, rfl⟩
  · rw [if_neg (fun z => e1 ((nI_eq (by omega) (by omega)).mp z))]
    exact Or.inr ⟨fun z => e1 z.1, rfl⟩
theorem wk_fr {I I' : rk_I} (h : ∀ q i, ¬ (q = 16 ∧ i = 3) → I' q i = I q i) : kI I I' := fun q i hk => h q i (fun e => by obtain ⟨e, -⟩ := e; subst e; unfold kp at hk; omega)
theorem wk_walk (hB : pv_B c s sv cv) (hm : m ≤ s) (hm12 : m ≤ 12) (hR : R 16 1 = some 2) {f : Nat} (hf : f < m) : ∀ (d x B V : Nat) (I : rk_I) (P : Nat → Prop), 11 ≤ d + fb_ct (fun i => V.testBit i) 10 → x < 10 → B < 4096 → V < 1024 → pv_X n c s oc os sv cv S I R → I 16 2 = nI m → bs_B P (I 16 3) → ∃ I', f_gW d 0 (nI f) (nI x) (nI B) (nI V) S I R = some I' ∧ bs_B (fun z => P z ∨ fo_O sv m f d x B V z) (I' 16 3) ∧ ∀ q i, ¬ (q = 16 ∧ i = 3) → I' q i = I q i := by
  have hs := hB.2.1
  have ckr : rk_ckR R 16 1 2 = some () := pr_ckR hR
  intro d
  induction d with
  | zero =>
    intro x B V I P hd
    have := fb_ct_le (fun i => V.testBit i) 10
    omega
  | succ d ih =>
    intro x B V I P hd hx hBb hV hX h16 hP
    have eg : f_gW (d + 1) 0 (nI f) (nI x) (nI B) (nI V) S I R = f_X4_walk (f_gW d) S I R (nI f) (nI x) (nI B) (nI V) := rfl
    rw [eg]
    unfold f_X4_walk
    have hbc := bc_12 B
    rw [bc_c hBb, pr_sb]
    by_cases h10 : bc_n B < 10
    · rw [if_pos (show nI (bc_n B) < 10 from nI_lt (b := 10) h10 (by omega)), nI_1]
      have hw := pr_for (f := fun a9 : Int32 × rk_I => f_X4_walk_l15 (f_gW d) S a9.2 R (nI f) (nI x) (nI B) (nI V) a9.1) (fun i a => f < i ∧ ∃ I', a = (nI i, I') ∧ bs_B (fun z => P z ∨ ∃ k, f < k ∧ k < i ∧ wk_S sv m f d x B V k z) (I' 16 3) ∧ ∀ q i, ¬ (q = 16 ∧ i = 3) → I' q i = I q i) m (fun b => ∃ I', b = (nI m, I') ∧ bs_B (fun z => P z ∨ ∃ k, f < k ∧ k < m ∧ wk_S sv m f d x B V k z) (I' 16 3) ∧ ∀ q i, ¬ (q = 16 ∧ i = 3) → I' q i = I q i) (fun i a hi hA => by
        obtain ⟨hfi, I', rfl, hbs, hfr⟩ := hA
        have hX' := kX hX (wk_fr hfr) (kR_r R)
        have e16 : I' 16 2 = nI m := (hfr 16 2 (by omega)).trans h16
        obtain ⟨i0, i1, -, -, -, i3, -⟩ := hX'.2.2.2.1 i (by omega)
        obtain ⟨f0, f1, -, -, f2, -⟩ := hX'.2.2.2.1 f (by omega)
        have bi := hB.2.2.1 i (by omega)
        have bf := hB.2.2.1 f (by omega)
        have hBi : B ||| 2 ^ i < 4096 := Nat.or_lt_two_pow (n := 12) hBb (Nat.pow_lt_pow_right (by decide) (by omega))
        have start : f_X4_walk_l15 (f_gW d) S I' R (nI f) (nI x) (nI B) (nI V) (nI i) = (f_X4_follows S I' R (nI f) (nI i) (nI x)).bind fun x1 => if x1 = 0 then some (.inl (nI (i + 1), I')) else (if nI (sv i 3) = nI (sv f 2) then (f_X4_offer I' (nI (B ||| 2 ^ i))).bind fun I2 => some (.inl (nI (i + 1), I2)) else (f_X4_has (nI V) (nI (sv i 3))).bind fun x2 => if x2 = 0 then (f_gW d 0 (nI f) (nI (sv i 3)) (nI (B ||| 2 ^ i)) (nI (V ||| 2 ^ (sv i 3))) S I' R).bind fun I1 => some (.inl (nI (i + 1), I1)) else some (.inl (nI (i + 1), I'))) := by
          unfold f_X4_walk_l15
          rw [e16, if_neg (nI_ge hi (by omega)), ckr, pr_sb, pr_rdR (by omega) (by omega), i0, pr_sb, pr_dr i1, pr_sb, pr_sb, pr_rdR (by omega) (by omega), f0, pr_sb, pr_dr f1, pr_sb, i3, f2, rb_1 (by omega), rb_1 (by omega), fa_or, fa_or, nI_1]
        refine Or.inl ?_
        rcases wk_f hB hX' hR (f := f) (k := i) (x := x) (by omega) (by omega) hx with ⟨hF, eF⟩ | ⟨hF, eF⟩
        · by_cases hc : sv i 3 = sv f 2
          · obtain ⟨I2, e2, b2, r2⟩ := bs_offer hBi hbs
            refine ⟨(nI (i + 1), I2), ?_, by omega, I2, rfl, bs_cong (fun z => ?_) b2, fun q j hq => (r2 q j hq).trans (hfr q j hq)⟩
            · show f_X4_walk_l15 (f_gW d) S I' R (nI f) (nI x) (nI B) (nI V) (nI i) = _
              rw [start, eF, pr_sb, if_neg (by decide), if_pos (by rw [hc]), e2, pr_sb]
            · rw [← wk_Q (P := fun _ _ => True) hfi]
              have : (z = B ||| 2 ^ i) ↔ wk_S sv m f d x B V i z := ⟨fun h => ⟨hF, Or.inl ⟨hc, h⟩⟩, fun h => h.2.elim (fun w => w.2) (fun w => absurd hc w.1)⟩
              rw [this]
          · have hne : ¬ nI (sv i 3) = nI (sv f 2) := fun z => hc ((nI_eq (by omega) (by omega)).mp z)
            cases hv : V.testBit (sv i 3) with
            | true =>
              refine ⟨(nI (i + 1), I'), ?_, by omega, I', rfl, bs_cong (fun z => ?_) hbs, hfr⟩
              · show f_X4_walk_l15 (f_gW d) S I' R (nI f) (nI x) (nI B) (nI V) (nI i) = _
                rw [start, eF, pr_sb, if_neg (by decide), if_neg hne, rb_has (by omega) (by omega), hv, pr_sb, if_neg (by decide)]
              · rw [← wk_Q (P := fun _ _ => True) hfi]
                have : ¬ wk_S sv m f d x B V i z := fun h => h.2.elim (fun w => hc w.1) (fun w => by rw [hv] at w; exact absurd w.2.1 (by decide))
                exact ⟨fun h => Or.inl h, fun h => h.elim id (fun w => absurd w this)⟩
            | false =>
              have hV' : V ||| 2 ^ (sv i 3) < 1024 := Nat.or_lt_two_pow (n := 10) hV (Nat.pow_lt_pow_right (by decide) bi.2.2.2.1)
              obtain ⟨I2, e2, b2, r2⟩ := ih (sv i 3) (B ||| 2 ^ i) (V ||| 2 ^ (sv i 3)) I' _ (by rw [wk_cnt bi.2.2.2.1 hv]; omega) bi.2.2.2.1 hBi hV' hX' e16 hbs
              refine ⟨(nI (i + 1), I2), ?_, by omega, I2, rfl, bs_cong (fun z => ?_) b2, fun q j hq => (r2 q j hq).trans (hfr q j hq)⟩
              · show f_X4_walk_l15 (f_gW d) S I' R (nI f) (nI x) (nI B) (nI V) (nI i) = _
                rw [start, eF, pr_sb, if_neg (by decide), if_neg hne, rb_has (by omega) (by omega), hv, pr_sb, if_pos (by decide), e2, pr_sb]
              · rw [← wk_Q (P := fun _ _ => True) hfi]
                have : fo_O sv m f d (sv i 3) (B ||| 2 ^ i) (V ||| 2 ^ (sv i 3)) z ↔ wk_S sv m f d x B V i z := ⟨fun h => ⟨hF, Or.inr ⟨hc, hv, h⟩⟩, fun h => h.2.elim (fun w => absurd w.1 hc) (fun w => w.2.2)⟩
                rw [this]
        · refine ⟨(nI (i + 1), I'), ?_, by omega, I', rfl, bs_cong (fun z => ?_) hbs, hfr⟩
          · show f_X4_walk_l15 (f_gW d) S I' R (nI f) (nI x) (nI B) (nI V) (nI i) = _
            rw [start, eF, pr_sb, if_pos rfl]
          · rw [← wk_Q (P := fun _ _ => True) hfi]
            exact ⟨fun h => Or.inl h, fun h => h.elim id (fun w => absurd w.1 hF)⟩) (fun a hA => by
        obtain ⟨hfi, I', rfl, hbs, hfr⟩ := hA
        refine ⟨(nI m, I'), ?_, I', rfl, hbs, hfr⟩
        show f_X4_walk_l15 (f_gW d) S I' R (nI f) (nI x) (nI B) (nI V) (nI m) = _
        unfold f_X4_walk_l15
        rw [hfr 16 2 (by omega), h16, if_pos (nI_le (Nat.le_refl _) (by omega))]) (m - (f + 1)) (f + 1) (nI (f + 1), I) (by omega) ⟨by omega, I, rfl, bs_cong (fun z => ⟨fun h => Or.inl h, fun h => h.elim id (fun ⟨k, h1, h2, _⟩ => by omega)⟩) hP, fun _ _ _ => rfl⟩
      obtain ⟨b, e, I', rfl, hbs, hfr⟩ := hw
      refine ⟨I', ?_, bs_cong (fun z => ?_) hbs, hfr⟩
      · rw [e, cq_b2]
      · rw [wk_O]
        exact ⟨fun h => h.imp id (fun w => ⟨h10, w⟩), fun h => h.imp id (fun w => w.2)⟩
    · rw [if_neg (show ¬ nI (bc_n B) < 10 from nI_nlt (b := 10) (by omega) (by omega))]
      refine ⟨I, rfl, bs_cong (fun z => ?_) hP, fun _ _ _ => rfl⟩
      rw [wk_O]
      exact ⟨fun h => Or.inl h, fun h => h.elim id (fun w => absurd w.1 h10)⟩
end WK
