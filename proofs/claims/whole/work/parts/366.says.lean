/-! A JOIN, A CHAIN, A LOOP of the reference's reader -/
theorem ev_bin {nm : Nat → Int32} {x : Nat} (h1 : 6 ≤ x) (h2 : x < 100) (h3 : x ≠ 8) (h4 : x ≠ 22) (v u : Int32) (s : List Int32) : ev_s nm (u :: v :: s) x = ev_j x v u :: s := by
  unfold ev_s
  rw [if_neg (by omega), if_neg (by omega), if_neg h3, if_neg h4]
  rfl
section RL
variable {bs : Nat → Nat} {sz off : Nat} {tk pl st : Nat → Nat} {tc : Nat} {nm : Nat → Int32}
theorem rq_pre {j j0 op : Nat} {I I0 : rk_I} {J J0 : rk_J} {r : gp_R} {o : Option (Int32 × rk_I × rk_J)} (hr : rR I0 I) (hj : mJ J0 J) (hjj : j0 ≤ j) (h : rQ bs sz off tk pl st tc nm j op I J r o) : rQ bs sz off tk pl st tc nm j0 op I0 J0 r o := by
  cases r with
  | inl f =>
    obtain ⟨v, I', J', e, g1, g2, g3⟩ := h
    exact ⟨v, I', J', e, g1, rR_t hr g2, mJ_t hj g3⟩
  | inr q =>
    obtain ⟨v, I', J', e, g1, g2, g3, g4, g5⟩ := h
    exact ⟨v, I', J', e, g1, rR_t hr g2, mJ_t hj g3, g4, by omega⟩
theorem rq_b {j j0 op op' : Nat} {I I0 : rk_I} {J J0 : rk_J} {r : gp_R} {o : Option (Int32 × rk_I × rk_J)} {f : Nat → List Nat → gp_R} {g : Int32 → rk_I → rk_J → Option (Int32 × rk_I × rk_J)} (h : rQ bs sz off tk pl st tc nm j op I J r o) (hr : rR I0 I) (hj : mJ J0 J) (hjj : j0 ≤ j) (hF : ∀ x v I' J', rF pl x I' → ∃ v' I'' J'', g v I' J' = some (v', I'', J'') ∧ rF pl x I'' ∧ rR I' I'' ∧ mJ J' J'') (hS : ∀ q c v I' J', rS bs sz off tk pl st tc nm q op I' J' → eV nm c v → j ≤ q → rQ bs sz off tk pl st tc nm q op' I' J' (f q c) (g v I' J')) : rQ bs sz off tk pl st tc nm j0 op' I0 J0 (gp_b r f) (rk_b3 o g) := by
  cases r with
  | inl x =>
    obtain ⟨v, I', J', e, g1, g2, g3⟩ := h
    obtain ⟨v2, I2, J2, e2, k1, k2, k3⟩ := hF x v I' J' g1
    rw [e]
    exact ⟨v2, I2, J2, e2, k1, rR_t hr (rR_t g2 k2), mJ_t hj (mJ_t g3 k3)⟩
  | inr q =>
    obtain ⟨v, I', J', e, g1, g2, g3, g4, g5⟩ := h
    rw [e]
    exact rq_pre (rR_t hr g2) (mJ_t hj g3) (by omega : j0 ≤ q.1) (hS q.1 q.2 v I' J' g1 g4 g5)
theorem rq_loop {lv op k : Nat} {L : Int32 → rk_I → rk_J → Option ((Int32 × rk_I × rk_J) ⊕ (Int32 × rk_I × rk_J))} {rec : rk_I → rk_J → Option (Int32 × rk_I × rk_J)} (hT : tz_T bs sz tk pl st tc) (htc : tc ≤ 160) (hlv : lv < 5)
    (hOut : ∀ j I J s, rS bs sz off tk pl st tc nm j op I J → gp_j (tk j) lv = false → L s I J = some (.inr (s, I, J)))
    (hOutF : ∀ f I J s, rF pl f I → L s I J = some (.inr (s, I, J)))
    (hIn : ∀ j I J s, rS bs sz off tk pl st tc nm j op I J → gp_j (tk j) lv = true → ∃ I1 J1, rS bs sz off tk pl st tc nm (j + 1) op I1 J1 ∧ rR I I1 ∧ mJ J J1 ∧ ∀ v I2 J2, rec I1 J1 = some (v, I2, J2) → L s I J = some (.inl (ev_j (tk j) s v, I2, J2)))
    (H : ∀ a I J, rS bs sz off tk pl st tc nm a op I J → rQ bs sz off tk pl st tc nm a op I J (gp tk k (lv + 1) op a) (rec I J)) : ∀ (m a : Nat) (c1 : List Nat) (s : Int32) (I : rk_I) (J : rk_J), rS bs sz off tk pl st tc nm a op I J → 160 ≤ a + m → eV nm c1 s → rQ bs sz off tk pl st tc nm a op I J (gp_l tk (gp tk k (lv + 1) op) lv m a c1) (rk_b3 (rk_while (fun a9 => L a9.1 a9.2.1 a9.2.2) (s, I, J)) fun x I2 J2 => some (x, I2, J2)) := by
  have hx : ∀ t, gp_j t lv = true → 6 ≤ t ∧ t < 100 ∧ t ≠ 8 ∧ t ≠ 22 ∧ t ≠ 20 := fun t ht => by
    rcases (by omega : lv = 0 ∨ lv = 1 ∨ lv = 2 ∨ lv = 3 ∨ lv = 4) with rfl | rfl | rfl | rfl | rfl <;> simp [gp_j] at ht <;> omega
  have hout : ∀ (a : Nat) (c1 : List Nat) (s : Int32) (I : rk_I) (J : rk_J), rS bs sz off tk pl st tc nm a op I J → gp_j (tk a) lv = false → eV nm c1 s → rQ bs sz off tk pl st tc nm a op I J (.inr (a, c1)) (rk_b3 (rk_while (fun a9 => L a9.1 a9.2.1 a9.2.2) (s, I, J)) fun x I2 J2 => some (x, I2, J2)) := fun a c1 s I J h hj hv => by
    rw [rk_while_out (a := (s, I, J)) (b := (s, I, J)) (hOut a I J s h hj)]
    exact ⟨s, I, J, rfl, h, rR_r I, mJ_r J, hv, Nat.le_refl _⟩
  intro m
  induction m with
  | zero =>
    intro a c1 s I J h ha hv
    have e : a = tc := by have := h.2.1; omega
    refine hout a c1 s I J h ?_ hv
    cases hj : gp_j (tk a) lv with
    | false => rfl
    | true =>
      exfalso
      have := (hx _ hj).2.2.2.2
      rw [e] at this
      exact this hT.2.2.2.2.2
  | succ m ih =>
    intro a c1 s I J h ha hv
    cases hj : gp_j (tk a) lv with
    | false =>
      have eg : gp_l tk (gp tk k (lv + 1) op) lv (m + 1) a c1 = .inr (a, c1) := by
        unfold gp_l
        rw [hj]
        rfl
      rw [eg]
      exact hout a c1 s I J h hj hv
    | true =>
      have eg : gp_l tk (gp tk k (lv + 1) op) lv (m + 1) a c1 = gp_b (gp tk k (lv + 1) op (a + 1)) (fun a' c' => gp_l tk (gp tk k (lv + 1) op) lv m a' (c1 ++ c' ++ [tk a])) := by
        show (if gp_j (tk a) lv then _ else _) = _
        rw [hj]
        rfl
      rw [eg]
      obtain ⟨I1, J1, g1, g2, g3, g4⟩ := hIn a I J s h hj
      have hH := H (a + 1) I1 J1 g1
      obtain ⟨x1, x2, x3, x4, -⟩ := hx _ hj
      cases hg : gp tk k (lv + 1) op (a + 1) with
      | inl f =>
        rw [hg] at hH
        obtain ⟨v, I2, J2, e, k1, k2, k3⟩ := hH
        rw [rk_while_in (a := (s, I, J)) (a' := (ev_j (tk a) s v, I2, J2)) (g4 v I2 J2 e), rk_while_out (a := (ev_j (tk a) s v, I2, J2)) (b := (ev_j (tk a) s v, I2, J2)) (hOutF f I2 J2 _ k1)]
        exact ⟨_, I2, J2, rfl, k1, rR_t g2 k2, mJ_t g3 k3⟩
      | inr q =>
        rw [hg] at hH
        obtain ⟨v, I2, J2, e, k1, k2, k3, k4, k5⟩ := hH
        rw [rk_while_in (a := (s, I, J)) (a' := (ev_j (tk a) s v, I2, J2)) (g4 v I2 J2 e)]
        exact rq_pre (rR_t g2 k2) (mJ_t g3 k3) (by omega : a ≤ q.1) (ih q.1 (c1 ++ q.2 ++ [tk a]) (ev_j (tk a) s v) I2 J2 k1 (by omega) (eV_b hv k4 (ev_bin x1 x2 x3 x4 s v)))
end RL
