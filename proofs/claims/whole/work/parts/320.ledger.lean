/-! THE LEDGER: sales of one cargo in the order in which they pass, L i for i < m; what each hand holds after d of them -/
def lg_t (sv : pv_V) (h : Nat → Nat) (k : Nat) : Nat → Nat := fun x => if x = sv k 3 then h x + min (sv k 4) (h (sv k 2)) else if x = sv k 2 then h x - min (sv k 4) (h (sv k 2)) else h x
def lg_H (sv : pv_V) (L : Nat → Nat) (h0 : Nat → Nat) : Nat → Nat → Nat
  | 0 => h0
  | i + 1 => lg_t sv (lg_H sv L h0 i) (L i)
def lg_0 (cv : pv_V) (g : Nat) : Nat → Nat := fun x => if x = cv g 1 then cv g 0 else 0
def lg_lt (p : Nat → Nat) (a b : Nat) : Prop := p a < p b ∨ (p a = p b ∧ a < b)
def lg_L (sv : pv_V) (p : Nat → Nat) (s g m : Nat) (L : Nat → Nat) : Prop := m ≤ s ∧ (∀ i j, i < j → j < m → lg_lt p (L i) (L j)) ∧ (∀ i, i < m → L i < s ∧ sv (L i) 1 = g) ∧ ∀ k, k < s → sv k 1 = g → ∃ i, i < m ∧ L i = k
/-- d of the m have passed by t -/
def lg_d (p : Nat → Nat) (m : Nat) (L : Nat → Nat) (t d : Nat) : Prop := d ≤ m ∧ (∀ i, i < d → p (L i) ≤ t) ∧ (d < m → t < p (L d))
theorem lg_d1 {p : Nat → Nat} {m : Nat} {L : Nat → Nat} {t d d' : Nat} (h : lg_d p m L t d) (h' : lg_d p m L t d') : d = d' := by
  rcases Nat.lt_trichotomy d d' with g | g | g
  · have a := h.2.2 (by have := h'.1; omega)
    have b := h'.2.1 d g
    omega
  · exact g
  · have a := h'.2.2 (by have := h.1; omega)
    have b := h.2.1 d' g
    omega
/-- the class's rows hold L -/
def lg_A (os : Nat → Nat) (p : Nat → Nat) (m : Nat) (L : Nat → Nat) (I : rk_I) (R : rk_R) : Prop := ∀ i, i < m → I 15 i = nI (p (L i)) ∧ R 14 i = some (os (L i))
theorem pr_min (a b : Nat) (ha : a < 2147483648) (hb : b < 2147483648) : rk_min (nI a) (nI b) = nI (min a b) := by
  unfold rk_min
  by_cases h : b < a
  · rw [if_pos (nI_lt h (by omega)), Nat.min_eq_right (by omega)]
  · rw [if_neg (nI_nlt (by omega) (by omega)), Nat.min_eq_left (by omega)]
/-- what the class's insertion does -/
theorem lc_enter {os : Nat → Nat} {p : Nat → Nat} {m k : Nat} {L : Nat → Nat} {S : rk_Sh} {I : rk_I} {R : rk_R} (hm : m < 24) (h12 : I 12 3 = nI m) (hA : lg_A os p m L I R) (hS : ∀ i, i < m → S (os (L i)) = (5, 11)) (hp : ∀ i, i < m → p (L i) < 1001) (hk : p k < 1001) : ∃ I' R' j, f_X1_enter S I R (os k) (nI (p k)) = some (I', R') ∧ j ≤ m ∧ (∀ i, j ≤ i → i < m → p k < p (L i)) ∧ (0 < j → p (L (j - 1)) ≤ p k) ∧ lg_A os p (m + 1) (fun i => if i < j then L i else if i = j then k else L (i - 1)) I' R' ∧ I' 12 3 = nI (m + 1) ∧ (∀ q i, q ≠ 15 → ¬ (q = 12 ∧ i = 3) → I' q i = I q i) ∧ ∀ q, q ≠ 14 → R' q = R q := by
  obtain ⟨⟨z, I1, R1⟩, e1, j, j1, w2, j3, j4, w5, w6, w7, w8⟩ := pr_for0 (f := fun a9 : Int32 × rk_I × rk_R => f_X1_enter_l5 S a9.2.1 a9.2.2 (os k) (nI (p k)) a9.1) (fun n a => ∃ j, j + n = m ∧ a.1 = nI j ∧ (∀ i, j ≤ i → i < m → p k < p (L i)) ∧ (∀ i, i < j → a.2.1 15 i = nI (p (L i)) ∧ a.2.2 14 i = some (os (L i))) ∧ (∀ i, j < i → i ≤ m → a.2.1 15 i = nI (p (L (i - 1))) ∧ a.2.2 14 i = some (os (L (i - 1)))) ∧ (∀ q, q ≠ 15 → a.2.1 q = I q) ∧ ∀ q, q ≠ 14 → a.2.2 q = R q) m (fun b => ∃ j, j ≤ m ∧ b.1 = nI j ∧ (∀ i, j ≤ i → i < m → p k < p (L i)) ∧ (0 < j → p (L (j - 1)) ≤ p k) ∧ (∀ i, i < j → b.2.1 15 i = nI (p (L i)) ∧ b.2.2 14 i = some (os (L i))) ∧ (∀ i, j < i → i ≤ m → b.2.1 15 i = nI (p (L (i - 1))) ∧ b.2.2 14 i = some (os (L (i - 1)))) ∧ (∀ q, q ≠ 15 → b.2.1 q = I q) ∧ ∀ q, q ≠ 14 → b.2.2 q = R q) (I 12 3, I, R) ⟨m, rfl, h12, fun i a b => absurd b (by omega), fun i hi => hA i hi, fun i a b => absurd b (by omega), fun _ _ => rfl, fun _ _ => rfl⟩ (by
      rintro n ⟨x, K, Q⟩ hn ⟨j, j0, hx, j2, j4, j5, j6, j7⟩
      have hx : x = nI j := hx
      subst hx
      have j4 : ∀ i, i < j → K 15 i = nI (p (L i)) ∧ Q 14 i = some (os (L i)) := j4
      have j5 : ∀ i, j < i → i ≤ m → K 15 i = nI (p (L (i - 1))) ∧ Q 14 i = some (os (L (i - 1))) := j5
      have j6 : ∀ q, q ≠ 15 → K q = I q := j6
      have j7 : ∀ q, q ≠ 14 → Q q = R q := j7
      obtain ⟨j', rfl⟩ : ∃ j', j = j' + 1 := ⟨j - 1, by omega⟩
      have c0 : ¬ nI (j' + 1) ≤ 0 := nI_nle (by omega) (by omega)
      obtain ⟨g1, g2⟩ := j4 j' (by omega)
      by_cases hc : p (L j') ≤ p k
      · right
        refine ⟨(nI (j' + 1), K, Q), ?_, j' + 1, by omega, rfl, j2, fun _ => hc, j4, j5, j6, j7⟩
        show f_X1_enter_l5 S K Q (os k) (nI (p k)) (nI (j' + 1)) = _
        unfold f_X1_enter_l5
        rw [if_neg c0, nI_pred, pr_rd (by omega) (by omega), g1, pr_sb, if_pos (nI_le hc (by omega))]
      · left
        refine ⟨(nI j', rk_ui K 15 (j' + 1) (nI (p (L j'))), rk_ur Q 14 (j' + 1) (some (os (L j')))), ?_, j', by omega, rfl, fun i a b => ?_, fun i a => ?_, fun i a b => ?_, fun q a => ?_, fun q a => ?_⟩
        · show f_X1_enter_l5 S K Q (os k) (nI (p k)) (nI (j' + 1)) = _
          unfold f_X1_enter_l5
          have hb := hp j' (by omega)
          rw [if_neg c0, nI_pred, pr_rd (by omega) (by omega), g1, pr_sb, if_neg (nI_ge (by omega) (by omega)), pr_sb, pr_wr (by omega) (by omega), pr_sb, pr_rdR (by omega) (by omega), g2, pr_sb, pr_dr (hS j' (by omega)), pr_sb, pr_wrR (by omega) (by omega), pr_sb, pk_m1]
        · by_cases hi : i = j'
          · subst hi; omega
          · exact j2 i (by omega) b
        · show rk_ui K 15 (j' + 1) (nI (p (L j'))) 15 i = _ ∧ rk_ur Q 14 (j' + 1) (some (os (L j'))) 14 i = _
          rw [ui_n (by omega), ur_n (by omega)]
          exact j4 i (by omega)
        · show rk_ui K 15 (j' + 1) (nI (p (L j'))) 15 i = _ ∧ rk_ur Q 14 (j' + 1) (some (os (L j'))) 14 i = _
          by_cases hi : i = j' + 1
          · subst hi
            rw [ui_s, ur_s]
            exact ⟨rfl, rfl⟩
          · rw [ui_n hi, ur_n hi]
            exact j5 i (by omega) b
        · show rk_ui K 15 (j' + 1) (nI (p (L j'))) q = _
          rw [ui_o a]
          exact j6 q a
        · show rk_ur Q 14 (j' + 1) (some (os (L j'))) q = _
          rw [ur_o a]
          exact j7 q a) (by
      rintro ⟨x, K, Q⟩ ⟨j, j0, hx, j2, j4, j5, j6, j7⟩
      have hx : x = nI j := hx
      have hj : j = 0 := by omega
      subst hj
      subst hx
      refine ⟨(nI 0, K, Q), ?_, 0, by omega, rfl, j2, fun h => absurd h (by omega), j4, j5, j6, j7⟩
      show f_X1_enter_l5 S K Q (os k) (nI (p k)) (nI 0) = _
      unfold f_X1_enter_l5
      rw [if_pos (by decide)])
  have j2 : z = nI j := w2
  have j5 : ∀ i, i < j → I1 15 i = nI (p (L i)) ∧ R1 14 i = some (os (L i)) := w5
  have j6 : ∀ i, j < i → i ≤ m → I1 15 i = nI (p (L (i - 1))) ∧ R1 14 i = some (os (L (i - 1))) := w6
  have j7 : ∀ q, q ≠ 15 → I1 q = I q := w7
  have j8 : ∀ q, q ≠ 14 → R1 q = R q := w8
  subst j2
  refine ⟨rk_ui (rk_ui I1 15 j (nI (p k))) 12 3 (nI (m + 1)), rk_ur R1 14 j (some (os k)), j, ?_, j1, j3, j4, fun i hi => ?_, ui_s, fun q i a b => ?_, fun q a => ?_⟩
  · unfold f_X1_enter
    rw [e1, pr_b3]
    unfold f_X1_enter_j55
    rw [pr_wr (by omega) (by omega), pr_sb, pr_wrR (by omega) (by omega), pr_sb, ui_o (by omega), j7 12 (by omega), h12, nI_1]
    rfl
  · rw [ui_o (by omega)]
    by_cases h1 : i < j
    · rw [ui_n (by omega), ur_n (by omega)]
      simp only [h1, if_true]
      exact j5 i h1
    · by_cases h2 : i = j
      · subst h2
        rw [ui_s, ur_s]
        simp only [Nat.lt_irrefl, if_false, if_true]
        exact ⟨trivial, trivial⟩
      · rw [ui_n h2, ur_n h2]
        simp only [h1, h2, if_false]
        exact j6 i (by omega) (by omega)
  · by_cases hq : q = 12
    · subst hq
      rw [ui_n (fun e => b ⟨rfl, e⟩), ui_o a, j7 12 a]
    · rw [ui_o hq, ui_o a, j7 q a]
  · rw [ur_o a, j8 q a]
/-- the order with one more -/
theorem lg_ins {sv : pv_V} {p : Nat → Nat} {k g m j : Nat} {L : Nat → Nat} (h : lg_L sv p k g m L) (hg : sv k 1 = g) (hj : j ≤ m) (h1 : ∀ i, j ≤ i → i < m → p k < p (L i)) (h2 : 0 < j → p (L (j - 1)) ≤ p k) : lg_L sv p (k + 1) g (m + 1) (fun i => if i < j then L i else if i = j then k else L (i - 1)) := by
  obtain ⟨a1, a2, a3, a4⟩ := h
  have hle : ∀ i, i < j → p (L i) ≤ p k := fun i hi => by
    have := h2 (by omega)
    by_cases e : i = j - 1
    · rw [e]; exact this
    · rcases a2 i (j - 1) (by omega) (by omega) with z | z <;> omega
  refine ⟨by omega, fun i i' hi hi' => ?_, fun i hi => ?_, fun q hq hqg => ?_⟩
  · show lg_lt p (if i < j then L i else if i = j then k else L (i - 1)) (if i' < j then L i' else if i' = j then k else L (i' - 1))
    by_cases c1 : i' < j
    · rw [if_pos (by omega), if_pos c1]
      exact a2 i i' hi (by omega)
    · rw [if_neg c1]
      by_cases c2 : i' = j
      · rw [if_pos c2, if_pos (by omega)]
        have b := (a3 i (by omega)).1
        have b2 := hle i (by omega)
        unfold lg_lt
        omega
      · rw [if_neg c2]
        by_cases c3 : i < j
        · rw [if_pos c3]
          exact a2 i (i' - 1) (by omega) (by omega)
        · rw [if_neg c3]
          by_cases c4 : i = j
          · rw [if_pos c4]
            exact Or.inl (h1 (i' - 1) (by omega) (by omega))
          · rw [if_neg c4]
            exact a2 (i - 1) (i' - 1) (by omega) (by omega)
  · show (if i < j then L i else if i = j then k else L (i - 1)) < k + 1 ∧ sv (if i < j then L i else if i = j then k else L (i - 1)) 1 = g
    by_cases c1 : i < j
    · rw [if_pos c1]
      have := a3 i (by omega)
      exact ⟨by omega, this.2⟩
    · rw [if_neg c1]
      by_cases c2 : i = j
      · rw [if_pos c2]
        exact ⟨by omega, hg⟩
      · rw [if_neg c2]
        have := a3 (i - 1) (by omega)
        exact ⟨by omega, this.2⟩
  · by_cases hqk : q = k
    · refine ⟨j, by omega, ?_⟩
      show (if j < j then L j else if j = j then k else L (j - 1)) = q
      rw [if_neg (by omega), if_pos rfl, hqk]
    · obtain ⟨i, i1, i2⟩ := a4 q (by omega) hqg
      by_cases c1 : i < j
      · refine ⟨i, by omega, ?_⟩
        show (if i < j then L i else if i = j then k else L (i - 1)) = q
        rw [if_pos c1, i2]
      · refine ⟨i + 1, by omega, ?_⟩
        show (if i + 1 < j then L (i + 1) else if i + 1 = j then k else L (i + 1 - 1)) = q
        rw [if_neg (by omega), if_neg (by omega), Nat.add_sub_cancel, i2]
theorem lg_skip {sv : pv_V} {p : Nat → Nat} {k g m : Nat} {L : Nat → Nat} (h : lg_L sv p k g m L) (hg : sv k 1 ≠ g) : lg_L sv p (k + 1) g m L := by
  obtain ⟨a1, a2, a3, a4⟩ := h
  refine ⟨by omega, a2, fun i hi => ?_, fun q hq hqg => ?_⟩
  · have := a3 i hi
    exact ⟨by omega, this.2⟩
  · refine a4 q ?_ hqg
    have : q ≠ k := fun e => hg (e ▸ hqg)
    omega
