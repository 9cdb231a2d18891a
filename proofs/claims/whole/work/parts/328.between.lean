/-! between: both sides against one walk through the hours. B t: the least, the greatest held at the hours from lo to t at which something passes, and at lo -/
def bt_B (H : Nat → Nat) (ev : Nat → Bool) (wh lo : Nat) : Nat → Nat
  | 0 => H lo
  | j + 1 => if ev (lo + j + 1) then (if wh = 0 then min (bt_B H ev wh lo j) (H (lo + j + 1)) else max (bt_B H ev wh lo j) (H (lo + j + 1))) else bt_B H ev wh lo j
theorem bt_skip {H : Nat → Nat} {ev : Nat → Bool} {wh lo : Nat} : ∀ (i j : Nat), (∀ x, j < x → x ≤ j + i → ev (lo + x) = false) → bt_B H ev wh lo (j + i) = bt_B H ev wh lo j := by
  intro i
  induction i with
  | zero => intro j _; rfl
  | succ i ih =>
    intro j h
    have e := h (j + i + 1) (by omega) (by omega)
    show (if ev (lo + (j + i) + 1) then _ else _) = _
    rw [show lo + (j + i) + 1 = lo + (j + i + 1) by omega, e]
    simp only [Bool.false_eq_true, if_false]
    exact ih j (fun x a b => h x a (by omega))
def lg_D (p : Nat → Nat) (L : Nat → Nat) (t : Nat) : Nat → Nat
  | 0 => 0
  | m + 1 => if p (L m) ≤ t then m + 1 else lg_D p L t m
theorem lg_Dd {p : Nat → Nat} {L : Nat → Nat} {t : Nat} : ∀ m, (∀ i j, i < j → j < m → lg_lt p (L i) (L j)) → lg_d p m L t (lg_D p L t m) := by
  intro m
  induction m with
  | zero => intro _; exact ⟨Nat.le_refl _, fun i hi => absurd hi (Nat.not_lt_zero i), fun h => absurd h (Nat.lt_irrefl _)⟩
  | succ m ih =>
    intro h
    have q := ih (fun i j a b => h i j a (by omega))
    show lg_d p (m + 1) L t (if p (L m) ≤ t then m + 1 else lg_D p L t m)
    by_cases hm : p (L m) ≤ t
    · rw [if_pos hm]
      refine ⟨Nat.le_refl _, fun i hi => ?_, fun z => absurd z (Nat.lt_irrefl _)⟩
      by_cases him : i = m
      · rw [him]; exact hm
      · have := h i m (by omega) (by omega)
        unfold lg_lt at this
        omega
    · rw [if_neg hm]
      refine ⟨by have := q.1; omega, q.2.1, fun _ => ?_⟩
      by_cases hd : lg_D p L t m < m
      · exact q.2.2 hd
      · have : lg_D p L t m = m := by have := q.1; omega
        rw [this]
        omega
theorem bt_ev {sv : pv_V} {p : Nat → Nat} {s g m : Nat} {L : Nat → Nat} (hL : lg_L sv p s g m L) {ev : Nat → Bool} (hev : ∀ t, ev t = true ↔ ∃ k, k < s ∧ sv k 1 = g ∧ p k = t) {t d : Nat} (hd : lg_d p m L t d) {x : Nat} (h1 : t < x) (h2 : d < m → x < p (L d)) : ev x = false := by
  cases hx : ev x with
  | false => rfl
  | true =>
    exfalso
    obtain ⟨k, k1, k2, k3⟩ := (hev x).mp hx
    obtain ⟨i, i1, i2⟩ := hL.2.2.2 k k1 k2
    rcases Nat.lt_or_ge i d with hi | hi
    · have := hd.2.1 i hi
      rw [i2] at this
      omega
    · have h3 := h2 (by omega)
      by_cases hid : i = d
      · rw [← hid, i2] at h3
        omega
      · have := hL.2.1 d i (by omega) i1
        rw [i2] at this
        unfold lg_lt at this
        omega
/-- the class's walk -/
theorem bt_c {n c s : Nat} {oc os : Nat → Nat} {sv cv : pv_V} {S : rk_Sh} {I : rk_I} {R : rk_R} (hB : pv_B c s sv cv) (hX : pv_X n c s oc os sv cv S I R) {g m lo hi hand wh : Nat} {L : Nat → Nat} (hg : g < c) (hlo : lo ≤ hi) (hhi : hi < 1000) (hh : hand < 10) (hwh : wh < 2) (hL : lg_L sv (fun k => ps sv cv k 1) s g m L) (hA : lg_A os (fun k => ps sv cv k 1) m L I R) (h3 : I 12 3 = nI m) (h4 : I 12 4 = nI (lg_D (fun k => ps sv cv k 1) L lo m)) (h13 : ∀ x, x < 10 → I 13 x = nI (lg_H sv L (lg_0 cv g) (lg_D (fun k => ps sv cv k 1) L lo m) x)) {ev : Nat → Bool} (hev : ∀ t, ev t = true ↔ ∃ k, k < s ∧ sv k 1 = g ∧ ps sv cv k 1 = t) {H : Nat → Nat} (hH : ∀ t, H t = lg_H sv L (lg_0 cv g) (lg_D (fun k => ps sv cv k 1) L t m) hand) : ∃ z I', rk_while (fun a9 : Int32 × Int32 × Int32 × rk_I => f_X9_between_l105 S a9.2.2.2 R (nI hand) (nI wh) (nI hi) a9.1 a9.2.1 a9.2.2.1) (nI (H lo), nI (H lo), 0, I) = some (nI (bt_B H ev 0 lo (hi - lo)), nI (bt_B H ev 1 lo (hi - lo)), z, I') ∧ ∀ q i, q ≠ 12 → q ≠ 13 → q ≠ 15 → I' q i = I q i := by
  have hs := hB.2.1
  have hm := hL.1
  have hDd := fun t => lg_Dd (p := fun k => ps sv cv k 1) (L := L) (t := t) m hL.2.1
  have hHb : ∀ t, H t ≤ 25000 := fun t => by
    rw [hH]
    have := lg_Hb hB hL hg _ (hDd t).1 hand
    have := (hDd t).1
    omega
  have hBb : ∀ w j, bt_B H ev w lo j ≤ 25000 := by
    intro w j
    induction j with
    | zero => exact hHb lo
    | succ j ih =>
      have := hHb (lo + j + 1)
      show (if ev (lo + j + 1) then (if w = 0 then min (bt_B H ev w lo j) (H (lo + j + 1)) else max (bt_B H ev w lo j) (H (lo + j + 1))) else bt_B H ev w lo j) ≤ _
      split
      · split <;> omega
      · exact ih
  obtain ⟨⟨a1, a2, a3, I1⟩, e1, p1, p2, p3⟩ := pr_for0 (f := fun a9 : Int32 × Int32 × Int32 × rk_I => f_X9_between_l105 S a9.2.2.2 R (nI hand) (nI wh) (nI hi) a9.1 a9.2.1 a9.2.2.1) (fun i a => a.2.2.1 = nI i ∧ ∃ j, lo + j ≤ hi ∧ i ≤ lg_D (fun k => ps sv cv k 1) L (lo + j) m ∧ a.1 = nI (bt_B H ev 0 lo j) ∧ a.2.1 = nI (bt_B H ev 1 lo j) ∧ a.2.2.2 12 3 = nI m ∧ a.2.2.2 12 4 = nI (lg_D (fun k => ps sv cv k 1) L (lo + j) m) ∧ (∀ x, x < 10 → a.2.2.2 13 x = nI (lg_H sv L (lg_0 cv g) (lg_D (fun k => ps sv cv k 1) L (lo + j) m) x)) ∧ ∀ q i, q ≠ 13 → ¬ (q = 12 ∧ i = 4) → a.2.2.2 q i = I q i) 24 (fun b => b.1 = nI (bt_B H ev 0 lo (hi - lo)) ∧ b.2.1 = nI (bt_B H ev 1 lo (hi - lo)) ∧ ∀ q i, q ≠ 13 → ¬ (q = 12 ∧ i = 4) → b.2.2.2 q i = I q i) (nI (H lo), nI (H lo), 0, I) ⟨rfl, 0, hlo, Nat.zero_le _, rfl, rfl, h3, h4, h13, fun _ _ _ _ => rfl⟩ (by
      rintro i ⟨x1, x2, x3, K⟩ hi24 ⟨hx3, j, j1, j2, hx1, hx2, g3, g4, g5, g6⟩
      have hx3 : x3 = nI i := hx3
      have hx1 : x1 = nI (bt_B H ev 0 lo j) := hx1
      have hx2 : x2 = nI (bt_B H ev 1 lo j) := hx2
      subst hx1
      subst hx2
      subst hx3
      have g3 : K 12 3 = nI m := g3
      have g4 : K 12 4 = nI (lg_D (fun k => ps sv cv k 1) L (lo + j) m) := g4
      have g5 : ∀ x, x < 10 → K 13 x = nI (lg_H sv L (lg_0 cv g) (lg_D (fun k => ps sv cv k 1) L (lo + j) m) x) := g5
      have g6 : ∀ q i, q ≠ 13 → ¬ (q = 12 ∧ i = 4) → K q i = I q i := g6
      have hd := hDd (lo + j)
      obtain ⟨d, hde⟩ : ∃ d, d = lg_D (fun k => ps sv cv k 1) L (lo + j) m := ⟨_, rfl⟩
      rw [← hde] at hd g4 g5 j2
      have hdm := hd.1
      have c24 : ¬ (24 : Int32) ≤ nI i := nI_ge (b := 24) hi24 (by omega)
      have stop : (∀ x, lo + j < x → x ≤ hi → ev x = false) → bt_B H ev 0 lo (hi - lo) = bt_B H ev 0 lo j ∧ bt_B H ev 1 lo (hi - lo) = bt_B H ev 1 lo j := fun hno => by
        have e : hi - lo = j + (hi - lo - j) := by omega
        rw [e]
        exact ⟨bt_skip _ _ (fun x a b => hno (lo + x) (by omega) (by omega)), bt_skip _ _ (fun x a b => hno (lo + x) (by omega) (by omega))⟩
      by_cases hd2 : d < m
      · have hLd := hL.2.2.1 d hd2
        have hpb := ps_B hB hLd.1 1
        have hgt : lo + j < ps sv cv (L d) 1 := hd.2.2 hd2
        have nh : f_X1_nextHour K = some (nI (ps sv cv (L d) 1)) := by
          unfold f_X1_nextHour
          rw [g3, g4, if_neg (nI_ge hd2 (by omega)), pr_rd (by omega) (by omega), g6 15 d (by omega) (by omega), (hA d hd2).1]
          rfl
        by_cases hle : ps sv cv (L d) 1 ≤ hi
        · left
          obtain ⟨I', d', e1, r1, r2, r3, r4, r5, r6⟩ := lc_run (w := 1) hB (kX hX (fun q i hq => by
            unfold kp at hq
            exact g6 q i (by omega) (by omega)) (kR_r R)) hg (by omega : ps sv cv (L d) 1 < 2147483648) hL (fun i hi => by
              rw [g6 15 i (by omega) (by omega)]
              exact hA i hi) g3 g4 g5 hdm (fun i hi => by
              have := hd.2.1 i hi
              have this : ps sv cv (L i) 1 ≤ lo + j := this
              omega)
          have hd' : d' = lg_D (fun k => ps sv cv k 1) L (ps sv cv (L d) 1) m := lg_d1 r2 (hDd _)
          have hdd : d < d' := by
            rcases Nat.lt_or_ge d d' with h | h
            · exact h
            · have := r2.2.2 (by omega)
              have e : d' = d := by omega
              rw [e] at this
              exact absurd this (Nat.lt_irrefl _)
          obtain ⟨j', hj'⟩ : ∃ j', ps sv cv (L d) 1 = lo + (j + j') + 1 := ⟨ps sv cv (L d) 1 - lo - j - 1, by omega⟩
          have hno : ∀ x, j < x → x ≤ j + j' → ev (lo + x) = false := fun x a b => bt_ev hL hev hd (by omega) (fun _ => by
            show lo + x < ps sv cv (L d) 1
            omega)
          have hyes : ev (lo + (j + j') + 1) = true := (hev _).mpr ⟨L d, hLd.1, hLd.2, hj'⟩
          have u0 : bt_B H ev 0 lo (j + j' + 1) = min (bt_B H ev 0 lo j) (H (ps sv cv (L d) 1)) := by
            show (if ev (lo + (j + j') + 1) then (if 0 = 0 then min (bt_B H ev 0 lo (j + j')) (H (lo + (j + j') + 1)) else _) else _) = _
            rw [if_pos hyes, if_pos rfl, bt_skip j' j hno, hj']
          have u1 : bt_B H ev 1 lo (j + j' + 1) = max (bt_B H ev 1 lo j) (H (ps sv cv (L d) 1)) := by
            show (if ev (lo + (j + j') + 1) then (if 1 = 0 then _ else max (bt_B H ev 1 lo (j + j')) (H (lo + (j + j') + 1))) else _) = _
            rw [if_pos hyes, if_neg (by omega), bt_skip j' j hno, hj']
          have hv : I' 13 hand = nI (H (ps sv cv (L d) 1)) := by rw [r5 hand hh, hH, hd']
          have w0 := hBb 0 j
          have w1 := hBb 1 j
          have w2 := hHb (ps sv cv (L d) 1)
          refine ⟨(nI (bt_B H ev 0 lo (j + j' + 1)), nI (bt_B H ev 1 lo (j + j' + 1)), nI (i + 1), I'), ?_, rfl, j + j' + 1, by omega, ?_, rfl, rfl, r3, ?_, fun x hx => ?_, fun q i' a b => ?_⟩
          · show f_X9_between_l105 S K R (nI hand) (nI wh) (nI hi) (nI (bt_B H ev 0 lo j)) (nI (bt_B H ev 1 lo j)) (nI i) = _
            unfold f_X9_between_l105
            rw [if_neg c24, nh, pr_sb, if_neg (nI_nlt hle (by omega)), pr_sb, e1, pr_sb, pr_rd hh (by omega), hv, pr_sb, pr_sb, pr_min _ _ (by omega) (by omega), pr_max _ _ (by omega) (by omega), nI_1, u0, u1]
          · rw [show lo + (j + j' + 1) = ps sv cv (L d) 1 by omega, ← hd']
            omega
          · show I' 12 4 = _
            rw [show lo + (j + j' + 1) = ps sv cv (L d) 1 by omega, ← hd']
            exact r4
          · show I' 13 x = _
            rw [show lo + (j + j' + 1) = ps sv cv (L d) 1 by omega, ← hd']
            exact r5 x hx
          · show I' q i' = _
            rw [r6 q i' a b]
            exact g6 q i' a b
        · right
          obtain ⟨s0, s1⟩ := stop (fun x a b => bt_ev hL hev hd a (fun _ => by
            show x < ps sv cv (L d) 1
            omega))
          refine ⟨(nI (bt_B H ev 0 lo j), nI (bt_B H ev 1 lo j), nI i, K), ?_, by rw [s0], by rw [s1], g6⟩
          show f_X9_between_l105 S K R (nI hand) (nI wh) (nI hi) (nI (bt_B H ev 0 lo j)) (nI (bt_B H ev 1 lo j)) (nI i) = _
          unfold f_X9_between_l105
          rw [if_neg c24, nh, pr_sb, if_pos (nI_lt (by omega) (by omega))]
      · right
        obtain ⟨s0, s1⟩ := stop (fun x a b => bt_ev hL hev hd a (fun z => absurd z hd2))
        have nh : f_X1_nextHour K = some 1000 := by
          unfold f_X1_nextHour
          rw [g3, g4, if_pos (nI_le (by omega) (by omega))]
        refine ⟨(nI (bt_B H ev 0 lo j), nI (bt_B H ev 1 lo j), nI i, K), ?_, by rw [s0], by rw [s1], g6⟩
        show f_X9_between_l105 S K R (nI hand) (nI wh) (nI hi) (nI (bt_B H ev 0 lo j)) (nI (bt_B H ev 1 lo j)) (nI i) = _
        unfold f_X9_between_l105
        rw [if_neg c24, nh, pr_sb, if_pos (show nI hi < 1000 from nI_lt (b := 1000) hhi (by omega))]) (by
      rintro ⟨x1, x2, x3, K⟩ ⟨hx3, j, j1, j2, hx1, hx2, g3, g4, g5, g6⟩
      have hx3 : x3 = nI 24 := hx3
      have hx1 : x1 = nI (bt_B H ev 0 lo j) := hx1
      have hx2 : x2 = nI (bt_B H ev 1 lo j) := hx2
      subst hx1
      subst hx2
      subst hx3
      have hd := hDd (lo + j)
      have hno : ∀ x, lo + j < x → x ≤ hi → ev x = false := fun x a b => bt_ev hL hev hd a (fun z => by have := hd.1; omega)
      have e : hi - lo = j + (hi - lo - j) := by omega
      refine ⟨(nI (bt_B H ev 0 lo j), nI (bt_B H ev 1 lo j), nI 24, K), ?_, ?_, ?_, g6⟩
      · show f_X9_between_l105 S K R (nI hand) (nI wh) (nI hi) (nI (bt_B H ev 0 lo j)) (nI (bt_B H ev 1 lo j)) (nI 24) = _
        unfold f_X9_between_l105
        rw [if_pos (by decide)]
      · show nI (bt_B H ev 0 lo j) = _
        rw [e, bt_skip _ _ (fun x a b => hno (lo + x) (by omega) (by omega))]
      · show nI (bt_B H ev 1 lo j) = _
        rw [e, bt_skip _ _ (fun x a b => hno (lo + x) (by omega) (by omega))])
  have p1 : a1 = nI (bt_B H ev 0 lo (hi - lo)) := p1
  have p2 : a2 = nI (bt_B H ev 1 lo (hi - lo)) := p2
  subst p1
  subst p2
  exact ⟨a3, I1, e1, fun q i a b _ => p3 q i b (fun z => a z.1)⟩
